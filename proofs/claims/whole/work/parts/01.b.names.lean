theorem dX0_init_0 : decode cX0_init 0 = .ok (.aload_n 0, 1) := by decide +kernel
theorem dX0_init_1 : decode cX0_init 1 = .ok (.invokespecial 3, 3) := by decide +kernel
theorem dX0_init_4 : decode cX0_init 4 = .ok (.aload_n 0, 1) := by decide +kernel
theorem dX0_init_5 : decode cX0_init 5 = .ok (.aload_n 1, 1) := by decide +kernel
theorem dX0_init_6 : decode cX0_init 6 = .ok (.putfield 9, 3) := by decide +kernel
theorem dX0_init_9 : decode cX0_init 9 = .ok (.aload_n 0, 1) := by decide +kernel
theorem dX0_init_10 : decode cX0_init 10 = .ok (.iconst 5, 1) := by decide +kernel
theorem dX0_init_11 : decode cX0_init 11 = .ok (.newarray .int, 2) := by decide +kernel
theorem dX0_init_13 : decode cX0_init 13 = .ok (.putfield 15, 3) := by decide +kernel
theorem dX0_init_16 : decode cX0_init 16 = .ok (.aload_n 0, 1) := by decide +kernel
theorem dX0_init_17 : decode cX0_init 17 = .ok (.iconst 3, 1) := by decide +kernel
theorem dX0_init_18 : decode cX0_init 18 = .ok (.newarray .int, 2) := by decide +kernel
theorem dX0_init_20 : decode cX0_init 20 = .ok (.putfield 19, 3) := by decide +kernel
theorem dX0_init_23 : decode cX0_init 23 = .ok (.aload_n 0, 1) := by decide +kernel
theorem dX0_init_24 : decode cX0_init 24 = .ok (.iconst 3, 1) := by decide +kernel
theorem dX0_init_25 : decode cX0_init 25 = .ok (.newarray .int, 2) := by decide +kernel
theorem dX0_init_27 : decode cX0_init 27 = .ok (.putfield 22, 3) := by decide +kernel
theorem dX0_init_30 : decode cX0_init 30 = .ok (.aload_n 0, 1) := by decide +kernel
theorem dX0_init_31 : decode cX0_init 31 = .ok (.bipush 6, 2) := by decide +kernel
theorem dX0_init_33 : decode cX0_init 33 = .ok (.newarray .int, 2) := by decide +kernel
theorem dX0_init_35 : decode cX0_init 35 = .ok (.putfield 25, 3) := by decide +kernel
theorem dX0_init_38 : decode cX0_init 38 = .ok (.aload_n 0, 1) := by decide +kernel
theorem dX0_init_39 : decode cX0_init 39 = .ok (.bipush 6, 2) := by decide +kernel
theorem dX0_init_41 : decode cX0_init 41 = .ok (.newarray .int, 2) := by decide +kernel
theorem dX0_init_43 : decode cX0_init 43 = .ok (.putfield 28, 3) := by decide +kernel
theorem dX0_init_46 : decode cX0_init 46 = .ok (.return_, 1) := by decide +kernel
set_option maxRecDepth 20000 in
theorem ggX0_nearestPot_X2_hasPaint : GoodIn wsX0_nearestPot wsX2_hasPaint := goodIn_r _ [6, 7, 8, 9, 5, 10, 11, 40, 41, 42, 43, 44, 45, 46, 47, 48, 49, 50, 51] (by decide +kernel) (by decide +kernel)
set_option maxRecDepth 20000 in
theorem gX0_nearestPot_X2_hasPaint : GoodIn wsX0_nearestPot (wsV RX0 31 RX2 yX2_hasPaint wsX2_hasPaint) := goodIn_app (goodIn_of _ (by decide +kernel)) ggX0_nearestPot_X2_hasPaint
set_option maxRecDepth 20000 in
theorem ggX0_nearestPot_X2_distanceOfPaint : GoodIn wsX0_nearestPot wsX2_distanceOfPaint := goodIn_r _ [15, 16, 17, 18, 5, 19, 11, 20, 21, 22, 7, 8, 9, 10, 23, 24, 25, 26, 27, 28, 29, 30, 31, 32, 33, 40, 41, 42, 43, 44, 45, 46, 47, 48, 49, 50, 51] (by decide +kernel) (by decide +kernel)
set_option maxRecDepth 20000 in
theorem gX0_nearestPot_X2_distanceOfPaint : GoodIn wsX0_nearestPot (wsV RX0 37 RX2 yX2_distanceOfPaint wsX2_distanceOfPaint) := goodIn_app (goodIn_of _ (by decide +kernel)) ggX0_nearestPot_X2_distanceOfPaint
theorem dX0_nearestPot_0 : decode cX0_nearestPot 0 = .ok (.bipush (-6), 2) := by decide +kernel
theorem dX0_nearestPot_2 : decode cX0_nearestPot 2 = .ok (.istore_n 2, 1) := by decide +kernel
theorem dX0_nearestPot_3 : decode cX0_nearestPot 3 = .ok (.sipush 1000, 3) := by decide +kernel
theorem dX0_nearestPot_6 : decode cX0_nearestPot 6 = .ok (.istore_n 3, 1) := by decide +kernel
theorem dX0_nearestPot_7 : decode cX0_nearestPot 7 = .ok (.iconst 0, 1) := by decide +kernel
theorem dX0_nearestPot_8 : decode cX0_nearestPot 8 = .ok (.istore 4, 2) := by decide +kernel
theorem dX0_nearestPot_10 : decode cX0_nearestPot 10 = .ok (.iload 4, 2) := by decide +kernel
theorem dX0_nearestPot_12 : decode cX0_nearestPot 12 = .ok (.bipush 8, 2) := by decide +kernel
theorem dX0_nearestPot_14 : decode cX0_nearestPot 14 = .ok (.if_icmp .ge 45, 3) := by decide +kernel
theorem dX0_nearestPot_17 : decode cX0_nearestPot 17 = .ok (.aload_n 0, 1) := by decide +kernel
theorem dX0_nearestPot_18 : decode cX0_nearestPot 18 = .ok (.getfield 9, 3) := by decide +kernel
theorem dX0_nearestPot_21 : decode cX0_nearestPot 21 = .ok (.iload 4, 2) := by decide +kernel
theorem dX0_nearestPot_23 : decode cX0_nearestPot 23 = .ok (.invokevirtual 31, 3) := by decide +kernel
theorem dX0_nearestPot_26 : decode cX0_nearestPot 26 = .ok (.ifCond .eq 27, 3) := by decide +kernel
theorem dX0_nearestPot_29 : decode cX0_nearestPot 29 = .ok (.aload_n 0, 1) := by decide +kernel
theorem dX0_nearestPot_30 : decode cX0_nearestPot 30 = .ok (.getfield 9, 3) := by decide +kernel
theorem dX0_nearestPot_33 : decode cX0_nearestPot 33 = .ok (.iload_n 1, 1) := by decide +kernel
theorem dX0_nearestPot_34 : decode cX0_nearestPot 34 = .ok (.iload 4, 2) := by decide +kernel
theorem dX0_nearestPot_36 : decode cX0_nearestPot 36 = .ok (.invokevirtual 37, 3) := by decide +kernel
theorem dX0_nearestPot_39 : decode cX0_nearestPot 39 = .ok (.istore 5, 2) := by decide +kernel
theorem dX0_nearestPot_41 : decode cX0_nearestPot 41 = .ok (.iload 5, 2) := by decide +kernel
theorem dX0_nearestPot_43 : decode cX0_nearestPot 43 = .ok (.iload_n 3, 1) := by decide +kernel
theorem dX0_nearestPot_44 : decode cX0_nearestPot 44 = .ok (.if_icmp .ge 9, 3) := by decide +kernel
theorem dX0_nearestPot_47 : decode cX0_nearestPot 47 = .ok (.iload 5, 2) := by decide +kernel
theorem dX0_nearestPot_49 : decode cX0_nearestPot 49 = .ok (.istore_n 3, 1) := by decide +kernel
theorem dX0_nearestPot_50 : decode cX0_nearestPot 50 = .ok (.iload 4, 2) := by decide +kernel
theorem dX0_nearestPot_52 : decode cX0_nearestPot 52 = .ok (.istore_n 2, 1) := by decide +kernel
theorem dX0_nearestPot_53 : decode cX0_nearestPot 53 = .ok (.iinc 4 1, 3) := by decide +kernel
theorem dX0_nearestPot_56 : decode cX0_nearestPot 56 = .ok (.goto (-46), 3) := by decide +kernel
theorem dX0_nearestPot_59 : decode cX0_nearestPot 59 = .ok (.iload_n 2, 1) := by decide +kernel
theorem dX0_nearestPot_60 : decode cX0_nearestPot 60 = .ok (.ireturn, 1) := by decide +kernel
set_option maxRecDepth 20000 in
theorem ggX0_bestTimes_X0_distanceThinned : GoodIn wsX0_bestTimes wsX0_distanceThinned := goodIn_r _ [6, 1, 7, 8, 9, 10, 11, 12, 13, 14, 15, 5, 16, 17, 18, 19, 20, 21, 22, 23, 24, 25, 26, 27, 28, 29, 30, 31, 32, 33, 34, 35, 36, 37, 38, 39, 40, 41, 42, 43, 44, 45, 46, 47, 48, 49, 50, 51, 52] (by decide +kernel) (by decide +kernel)
set_option maxRecDepth 20000 in
theorem gX0_bestTimes_X0_distanceThinned : GoodIn wsX0_bestTimes (wsV RX0 41 RX0 yX0_distanceThinned wsX0_distanceThinned) := goodIn_app (goodIn_of _ (by decide +kernel)) ggX0_bestTimes_X0_distanceThinned
set_option maxRecDepth 20000 in
theorem ggX0_bestTimes_X2_allDrops : GoodIn wsX0_bestTimes wsX2_allDrops := goodIn_r _ [11, 12, 41, 42, 43, 44, 45, 46, 47, 48, 49, 50, 51, 52] (by decide +kernel) (by decide +kernel)
set_option maxRecDepth 20000 in
theorem gX0_bestTimes_X2_allDrops : GoodIn wsX0_bestTimes (wsV RX0 45 RX2 yX2_allDrops wsX2_allDrops) := goodIn_app (goodIn_of _ (by decide +kernel)) ggX0_bestTimes_X2_allDrops
theorem dX0_bestTimes_0 : decode cX0_bestTimes 0 = .ok (.iconst 0, 1) := by decide +kernel
theorem dX0_bestTimes_1 : decode cX0_bestTimes 1 = .ok (.istore_n 3, 1) := by decide +kernel
theorem dX0_bestTimes_2 : decode cX0_bestTimes 2 = .ok (.aload_n 0, 1) := by decide +kernel
theorem dX0_bestTimes_3 : decode cX0_bestTimes 3 = .ok (.iload_n 1, 1) := by decide +kernel
theorem dX0_bestTimes_4 : decode cX0_bestTimes 4 = .ok (.iload_n 2, 1) := by decide +kernel
theorem dX0_bestTimes_5 : decode cX0_bestTimes 5 = .ok (.iconst 0, 1) := by decide +kernel
theorem dX0_bestTimes_6 : decode cX0_bestTimes 6 = .ok (.invokevirtual 41, 3) := by decide +kernel
theorem dX0_bestTimes_9 : decode cX0_bestTimes 9 = .ok (.istore 4, 2) := by decide +kernel
theorem dX0_bestTimes_11 : decode cX0_bestTimes 11 = .ok (.aload_n 0, 1) := by decide +kernel
theorem dX0_bestTimes_12 : decode cX0_bestTimes 12 = .ok (.getfield 9, 3) := by decide +kernel
theorem dX0_bestTimes_15 : decode cX0_bestTimes 15 = .ok (.iload_n 2, 1) := by decide +kernel
theorem dX0_bestTimes_16 : decode cX0_bestTimes 16 = .ok (.invokevirtual 45, 3) := by decide +kernel
theorem dX0_bestTimes_19 : decode cX0_bestTimes 19 = .ok (.iconst 3, 1) := by decide +kernel
theorem dX0_bestTimes_20 : decode cX0_bestTimes 20 = .ok (.imul, 1) := by decide +kernel
theorem dX0_bestTimes_21 : decode cX0_bestTimes 21 = .ok (.istore 5, 2) := by decide +kernel
theorem dX0_bestTimes_23 : decode cX0_bestTimes 23 = .ok (.iconst 1, 1) := by decide +kernel
theorem dX0_bestTimes_24 : decode cX0_bestTimes 24 = .ok (.istore 6, 2) := by decide +kernel
theorem dX0_bestTimes_26 : decode cX0_bestTimes 26 = .ok (.iload 6, 2) := by decide +kernel
theorem dX0_bestTimes_28 : decode cX0_bestTimes 28 = .ok (.iconst 4, 1) := by decide +kernel
theorem dX0_bestTimes_29 : decode cX0_bestTimes 29 = .ok (.if_icmp .gt 46, 3) := by decide +kernel
theorem dX0_bestTimes_32 : decode cX0_bestTimes 32 = .ok (.iload 5, 2) := by decide +kernel
theorem dX0_bestTimes_34 : decode cX0_bestTimes 34 = .ok (.bipush 81, 2) := by decide +kernel
theorem dX0_bestTimes_36 : decode cX0_bestTimes 36 = .ok (.if_icmp .gt 39, 3) := by decide +kernel
theorem dX0_bestTimes_39 : decode cX0_bestTimes 39 = .ok (.aload_n 0, 1) := by decide +kernel
theorem dX0_bestTimes_40 : decode cX0_bestTimes 40 = .ok (.iload_n 1, 1) := by decide +kernel
theorem dX0_bestTimes_41 : decode cX0_bestTimes 41 = .ok (.iload_n 2, 1) := by decide +kernel
theorem dX0_bestTimes_42 : decode cX0_bestTimes 42 = .ok (.iload 6, 2) := by decide +kernel
theorem dX0_bestTimes_44 : decode cX0_bestTimes 44 = .ok (.invokevirtual 41, 3) := by decide +kernel
theorem dX0_bestTimes_47 : decode cX0_bestTimes 47 = .ok (.istore 7, 2) := by decide +kernel
theorem dX0_bestTimes_49 : decode cX0_bestTimes 49 = .ok (.iload 7, 2) := by decide +kernel
theorem dX0_bestTimes_51 : decode cX0_bestTimes 51 = .ok (.iload 4, 2) := by decide +kernel
theorem dX0_bestTimes_53 : decode cX0_bestTimes 53 = .ok (.if_icmp .ge 10, 3) := by decide +kernel
theorem dX0_bestTimes_56 : decode cX0_bestTimes 56 = .ok (.iload 7, 2) := by decide +kernel
theorem dX0_bestTimes_58 : decode cX0_bestTimes 58 = .ok (.istore 4, 2) := by decide +kernel
theorem dX0_bestTimes_60 : decode cX0_bestTimes 60 = .ok (.iload 6, 2) := by decide +kernel
theorem dX0_bestTimes_62 : decode cX0_bestTimes 62 = .ok (.istore_n 3, 1) := by decide +kernel
theorem dX0_bestTimes_63 : decode cX0_bestTimes 63 = .ok (.iload 5, 2) := by decide +kernel
theorem dX0_bestTimes_65 : decode cX0_bestTimes 65 = .ok (.iconst 3, 1) := by decide +kernel
theorem dX0_bestTimes_66 : decode cX0_bestTimes 66 = .ok (.imul, 1) := by decide +kernel
theorem dX0_bestTimes_67 : decode cX0_bestTimes 67 = .ok (.istore 5, 2) := by decide +kernel
theorem dX0_bestTimes_69 : decode cX0_bestTimes 69 = .ok (.iinc 6 1, 3) := by decide +kernel
theorem dX0_bestTimes_72 : decode cX0_bestTimes 72 = .ok (.goto (-46), 3) := by decide +kernel
theorem dX0_bestTimes_75 : decode cX0_bestTimes 75 = .ok (.iload_n 3, 1) := by decide +kernel
theorem dX0_bestTimes_76 : decode cX0_bestTimes 76 = .ok (.ireturn, 1) := by decide +kernel
set_option maxRecDepth 20000 in
theorem ggX0_distanceThinned_X2_allDrops : GoodIn wsX0_distanceThinned wsX2_allDrops := goodIn_r _ [6, 7, 37, 38, 39, 40, 41, 42, 43, 44, 45, 46, 47, 48] (by decide +kernel) (by decide +kernel)
set_option maxRecDepth 20000 in
theorem gX0_distanceThinned_X2_allDrops : GoodIn wsX0_distanceThinned (wsV RX0 45 RX2 yX2_allDrops wsX2_allDrops) := goodIn_app (goodIn_of _ (by decide +kernel)) ggX0_distanceThinned_X2_allDrops
set_option maxRecDepth 20000 in
theorem ggX0_distanceThinned_X0_thinnedStrength : GoodIn wsX0_distanceThinned wsX0_thinnedStrength := goodIn_r _ [12, 1, 13, 14, 15, 5, 16, 7, 17, 18, 19, 20, 21, 31, 32, 33, 34, 35, 36, 37, 38, 39, 40, 41, 42, 43, 44, 45, 46, 47, 48] (by decide +kernel) (by decide +kernel)
set_option maxRecDepth 20000 in
theorem gX0_distanceThinned_X0_thinnedStrength : GoodIn wsX0_distanceThinned (wsV RX0 49 RX0 yX0_thinnedStrength wsX0_thinnedStrength) := goodIn_app (goodIn_of _ (by decide +kernel)) ggX0_distanceThinned_X0_thinnedStrength
set_option maxRecDepth 20000 in
theorem ggX0_distanceThinned_X2_distance : GoodIn wsX0_distanceThinned wsX2_distance := goodIn_r _ [25, 26, 27, 28, 29, 30, 17, 18, 19, 37, 38, 39, 40, 41, 42, 43, 44, 45, 46, 47, 48] (by decide +kernel) (by decide +kernel)
set_option maxRecDepth 20000 in
theorem gX0_distanceThinned_X2_distance : GoodIn wsX0_distanceThinned (wsV RX0 52 RX2 yX2_distance wsX2_distance) := goodIn_app (goodIn_of _ (by decide +kernel)) ggX0_distanceThinned_X2_distance
theorem dX0_distanceThinned_0 : decode cX0_distanceThinned 0 = .ok (.aload_n 0, 1) := by decide +kernel
theorem dX0_distanceThinned_1 : decode cX0_distanceThinned 1 = .ok (.getfield 9, 3) := by decide +kernel
theorem dX0_distanceThinned_4 : decode cX0_distanceThinned 4 = .ok (.iload_n 2, 1) := by decide +kernel
theorem dX0_distanceThinned_5 : decode cX0_distanceThinned 5 = .ok (.invokevirtual 45, 3) := by decide +kernel
theorem dX0_distanceThinned_8 : decode cX0_distanceThinned 8 = .ok (.istore 4, 2) := by decide +kernel
theorem dX0_distanceThinned_10 : decode cX0_distanceThinned 10 = .ok (.iconst 0, 1) := by decide +kernel
theorem dX0_distanceThinned_11 : decode cX0_distanceThinned 11 = .ok (.istore 5, 2) := by decide +kernel
theorem dX0_distanceThinned_13 : decode cX0_distanceThinned 13 = .ok (.iload 5, 2) := by decide +kernel
theorem dX0_distanceThinned_15 : decode cX0_distanceThinned 15 = .ok (.iload_n 3, 1) := by decide +kernel
theorem dX0_distanceThinned_16 : decode cX0_distanceThinned 16 = .ok (.if_icmp .ge 21, 3) := by decide +kernel
theorem dX0_distanceThinned_19 : decode cX0_distanceThinned 19 = .ok (.iload 5, 2) := by decide +kernel
theorem dX0_distanceThinned_21 : decode cX0_distanceThinned 21 = .ok (.iconst 4, 1) := by decide +kernel
theorem dX0_distanceThinned_22 : decode cX0_distanceThinned 22 = .ok (.if_icmp .ge 15, 3) := by decide +kernel
theorem dX0_distanceThinned_25 : decode cX0_distanceThinned 25 = .ok (.iload 4, 2) := by decide +kernel
theorem dX0_distanceThinned_27 : decode cX0_distanceThinned 27 = .ok (.iconst 3, 1) := by decide +kernel
theorem dX0_distanceThinned_28 : decode cX0_distanceThinned 28 = .ok (.imul, 1) := by decide +kernel
theorem dX0_distanceThinned_29 : decode cX0_distanceThinned 29 = .ok (.istore 4, 2) := by decide +kernel
theorem dX0_distanceThinned_31 : decode cX0_distanceThinned 31 = .ok (.iinc 5 1, 3) := by decide +kernel
theorem dX0_distanceThinned_34 : decode cX0_distanceThinned 34 = .ok (.goto (-21), 3) := by decide +kernel
theorem dX0_distanceThinned_37 : decode cX0_distanceThinned 37 = .ok (.aload_n 0, 1) := by decide +kernel
theorem dX0_distanceThinned_38 : decode cX0_distanceThinned 38 = .ok (.getfield 9, 3) := by decide +kernel
theorem dX0_distanceThinned_41 : decode cX0_distanceThinned 41 = .ok (.iload_n 1, 1) := by decide +kernel
theorem dX0_distanceThinned_42 : decode cX0_distanceThinned 42 = .ok (.aload_n 0, 1) := by decide +kernel
theorem dX0_distanceThinned_43 : decode cX0_distanceThinned 43 = .ok (.iload_n 2, 1) := by decide +kernel
theorem dX0_distanceThinned_44 : decode cX0_distanceThinned 44 = .ok (.iconst 0, 1) := by decide +kernel
theorem dX0_distanceThinned_45 : decode cX0_distanceThinned 45 = .ok (.iload 4, 2) := by decide +kernel
theorem dX0_distanceThinned_47 : decode cX0_distanceThinned 47 = .ok (.invokevirtual 49, 3) := by decide +kernel
theorem dX0_distanceThinned_50 : decode cX0_distanceThinned 50 = .ok (.aload_n 0, 1) := by decide +kernel
theorem dX0_distanceThinned_51 : decode cX0_distanceThinned 51 = .ok (.iload_n 2, 1) := by decide +kernel
theorem dX0_distanceThinned_52 : decode cX0_distanceThinned 52 = .ok (.iconst 1, 1) := by decide +kernel
theorem dX0_distanceThinned_53 : decode cX0_distanceThinned 53 = .ok (.iload 4, 2) := by decide +kernel
theorem dX0_distanceThinned_55 : decode cX0_distanceThinned 55 = .ok (.invokevirtual 49, 3) := by decide +kernel
theorem dX0_distanceThinned_58 : decode cX0_distanceThinned 58 = .ok (.aload_n 0, 1) := by decide +kernel
theorem dX0_distanceThinned_59 : decode cX0_distanceThinned 59 = .ok (.iload_n 2, 1) := by decide +kernel
theorem dX0_distanceThinned_60 : decode cX0_distanceThinned 60 = .ok (.iconst 2, 1) := by decide +kernel
theorem dX0_distanceThinned_61 : decode cX0_distanceThinned 61 = .ok (.iload 4, 2) := by decide +kernel
theorem dX0_distanceThinned_63 : decode cX0_distanceThinned 63 = .ok (.invokevirtual 49, 3) := by decide +kernel
theorem dX0_distanceThinned_66 : decode cX0_distanceThinned 66 = .ok (.invokevirtual 52, 3) := by decide +kernel
theorem dX0_distanceThinned_69 : decode cX0_distanceThinned 69 = .ok (.ireturn, 1) := by decide +kernel
set_option maxRecDepth 20000 in
theorem ggX0_thinnedStrength_X2_dropsOf : GoodIn wsX0_thinnedStrength wsX2_dropsOf := goodIn_r _ [6, 7, 8, 9, 10, 19, 20, 21, 22, 23, 24, 25, 26, 27, 28, 29, 30] (by decide +kernel) (by decide +kernel)
set_option maxRecDepth 20000 in
theorem gX0_thinnedStrength_X2_dropsOf : GoodIn wsX0_thinnedStrength (wsV RX0 56 RX2 yX2_dropsOf wsX2_dropsOf) := goodIn_app (goodIn_of _ (by decide +kernel)) ggX0_thinnedStrength_X2_dropsOf
set_option maxRecDepth 20000 in
theorem ggX0_thinnedStrength_X4_divide : GoodIn wsX0_thinnedStrength wsX4_divide := goodIn_r _ [12] (by decide +kernel) (by decide +kernel)
set_option maxRecDepth 20000 in
theorem gX0_thinnedStrength_X4_divide_n59 : GoodIn wsX0_thinnedStrength (wsX4_divide) := ggX0_thinnedStrength_X4_divide
theorem dX0_thinnedStrength_0 : decode cX0_thinnedStrength 0 = .ok (.bipush 100, 2) := by decide +kernel
theorem dX0_thinnedStrength_2 : decode cX0_thinnedStrength 2 = .ok (.aload_n 0, 1) := by decide +kernel
theorem dX0_thinnedStrength_3 : decode cX0_thinnedStrength 3 = .ok (.getfield 9, 3) := by decide +kernel
theorem dX0_thinnedStrength_6 : decode cX0_thinnedStrength 6 = .ok (.iload_n 1, 1) := by decide +kernel
theorem dX0_thinnedStrength_7 : decode cX0_thinnedStrength 7 = .ok (.iload_n 2, 1) := by decide +kernel
theorem dX0_thinnedStrength_8 : decode cX0_thinnedStrength 8 = .ok (.invokevirtual 56, 3) := by decide +kernel
theorem dX0_thinnedStrength_11 : decode cX0_thinnedStrength 11 = .ok (.imul, 1) := by decide +kernel
theorem dX0_thinnedStrength_12 : decode cX0_thinnedStrength 12 = .ok (.iload_n 3, 1) := by decide +kernel
theorem dX0_thinnedStrength_13 : decode cX0_thinnedStrength 13 = .ok (.invokestatic 59, 3) := by decide +kernel
theorem dX0_thinnedStrength_16 : decode cX0_thinnedStrength 16 = .ok (.ireturn, 1) := by decide +kernel
set_option maxRecDepth 20000 in
theorem ggX0_mixture_X4_write : GoodIn wsX0_mixture wsX4_write := goodIn_r _ [5] (by decide +kernel) (by decide +kernel)
set_option maxRecDepth 20000 in
theorem gX0_mixture_X4_write_n62 : GoodIn wsX0_mixture (wsX4_write) := ggX0_mixture_X4_write
set_option maxRecDepth 20000 in
theorem ggX0_mixture_X2_hasPaint : GoodIn wsX0_mixture wsX2_hasPaint := goodIn_r _ [10, 11, 12, 13, 9, 14, 15, 51, 52, 53, 54, 55, 56, 57, 58, 59, 60, 61, 62] (by decide +kernel) (by decide +kernel)
set_option maxRecDepth 20000 in
theorem gX0_mixture_X2_hasPaint : GoodIn wsX0_mixture (wsV RX0 31 RX2 yX2_hasPaint wsX2_hasPaint) := goodIn_app (goodIn_of _ (by decide +kernel)) ggX0_mixture_X2_hasPaint
set_option maxRecDepth 20000 in
theorem ggX0_mixture_X0_tryParts : GoodIn wsX0_mixture wsX0_tryParts := goodIn_r _ [20, 2, 21, 22, 1, 23, 12, 13, 9, 14, 15, 24, 25, 26, 27, 28, 4, 29, 3, 5, 30, 31, 32, 19, 33, 34, 35, 36, 37, 38, 39, 40, 41, 42, 43, 44, 45, 46, 47, 48, 49, 50, 51, 52, 53, 54, 55, 56, 57, 58, 59, 60, 61, 62] (by decide +kernel) (by decide +kernel)
set_option maxRecDepth 20000 in
theorem gX0_mixture_X0_tryParts : GoodIn wsX0_mixture (wsV RX0 66 RX0 yX0_tryParts wsX0_tryParts) := goodIn_app (goodIn_of _ (by decide +kernel)) ggX0_mixture_X0_tryParts
set_option maxRecDepth 20000 in
theorem ggX0_mixture_X4_at : GoodIn wsX0_mixture wsX4_at := goodIn_r _ [29] (by decide +kernel) (by decide +kernel)
set_option maxRecDepth 20000 in
theorem gX0_mixture_X4_at_n70 : GoodIn wsX0_mixture (wsX4_at) := ggX0_mixture_X4_at
theorem dX0_mixture_0 : decode cX0_mixture 0 = .ok (.aload_n 0, 1) := by decide +kernel
theorem dX0_mixture_1 : decode cX0_mixture 1 = .ok (.getfield 15, 3) := by decide +kernel
theorem dX0_mixture_4 : decode cX0_mixture 4 = .ok (.iconst 4, 1) := by decide +kernel
theorem dX0_mixture_5 : decode cX0_mixture 5 = .ok (.sipush 1000, 3) := by decide +kernel
theorem dX0_mixture_8 : decode cX0_mixture 8 = .ok (.invokestatic 62, 3) := by decide +kernel
theorem dX0_mixture_11 : decode cX0_mixture 11 = .ok (.iconst 0, 1) := by decide +kernel
theorem dX0_mixture_12 : decode cX0_mixture 12 = .ok (.istore_n 3, 1) := by decide +kernel
theorem dX0_mixture_13 : decode cX0_mixture 13 = .ok (.iload_n 3, 1) := by decide +kernel
theorem dX0_mixture_14 : decode cX0_mixture 14 = .ok (.bipush 8, 2) := by decide +kernel
theorem dX0_mixture_16 : decode cX0_mixture 16 = .ok (.if_icmp .ge 58, 3) := by decide +kernel
theorem dX0_mixture_19 : decode cX0_mixture 19 = .ok (.iload_n 3, 1) := by decide +kernel
theorem dX0_mixture_20 : decode cX0_mixture 20 = .ok (.iconst 1, 1) := by decide +kernel
theorem dX0_mixture_21 : decode cX0_mixture 21 = .ok (.iadd, 1) := by decide +kernel
theorem dX0_mixture_22 : decode cX0_mixture 22 = .ok (.istore 4, 2) := by decide +kernel
theorem dX0_mixture_24 : decode cX0_mixture 24 = .ok (.iload 4, 2) := by decide +kernel
theorem dX0_mixture_26 : decode cX0_mixture 26 = .ok (.bipush 8, 2) := by decide +kernel
theorem dX0_mixture_28 : decode cX0_mixture 28 = .ok (.if_icmp .ge 40, 3) := by decide +kernel
theorem dX0_mixture_31 : decode cX0_mixture 31 = .ok (.aload_n 0, 1) := by decide +kernel
theorem dX0_mixture_32 : decode cX0_mixture 32 = .ok (.getfield 9, 3) := by decide +kernel
theorem dX0_mixture_35 : decode cX0_mixture 35 = .ok (.iload_n 3, 1) := by decide +kernel
theorem dX0_mixture_36 : decode cX0_mixture 36 = .ok (.invokevirtual 31, 3) := by decide +kernel
theorem dX0_mixture_39 : decode cX0_mixture 39 = .ok (.ifCond .eq 23, 3) := by decide +kernel
theorem dX0_mixture_42 : decode cX0_mixture 42 = .ok (.aload_n 0, 1) := by decide +kernel
theorem dX0_mixture_43 : decode cX0_mixture 43 = .ok (.getfield 9, 3) := by decide +kernel
theorem dX0_mixture_46 : decode cX0_mixture 46 = .ok (.iload 4, 2) := by decide +kernel
theorem dX0_mixture_48 : decode cX0_mixture 48 = .ok (.invokevirtual 31, 3) := by decide +kernel
theorem dX0_mixture_51 : decode cX0_mixture 51 = .ok (.ifCond .eq 11, 3) := by decide +kernel
theorem dX0_mixture_54 : decode cX0_mixture 54 = .ok (.aload_n 0, 1) := by decide +kernel
theorem dX0_mixture_55 : decode cX0_mixture 55 = .ok (.iload_n 1, 1) := by decide +kernel
theorem dX0_mixture_56 : decode cX0_mixture 56 = .ok (.iload_n 3, 1) := by decide +kernel
theorem dX0_mixture_57 : decode cX0_mixture 57 = .ok (.iload 4, 2) := by decide +kernel
theorem dX0_mixture_59 : decode cX0_mixture 59 = .ok (.invokevirtual 66, 3) := by decide +kernel
theorem dX0_mixture_62 : decode cX0_mixture 62 = .ok (.iinc 4 1, 3) := by decide +kernel
theorem dX0_mixture_65 : decode cX0_mixture 65 = .ok (.goto (-41), 3) := by decide +kernel
theorem dX0_mixture_68 : decode cX0_mixture 68 = .ok (.iinc 3 1, 3) := by decide +kernel
theorem dX0_mixture_71 : decode cX0_mixture 71 = .ok (.goto (-58), 3) := by decide +kernel
theorem dX0_mixture_74 : decode cX0_mixture 74 = .ok (.aload_n 0, 1) := by decide +kernel
theorem dX0_mixture_75 : decode cX0_mixture 75 = .ok (.getfield 15, 3) := by decide +kernel
theorem dX0_mixture_78 : decode cX0_mixture 78 = .ok (.iconst 4, 1) := by decide +kernel
theorem dX0_mixture_79 : decode cX0_mixture 79 = .ok (.invokestatic 70, 3) := by decide +kernel
theorem dX0_mixture_82 : decode cX0_mixture 82 = .ok (.sipush 1000, 3) := by decide +kernel
theorem dX0_mixture_85 : decode cX0_mixture 85 = .ok (.if_icmp .ne 8, 3) := by decide +kernel
theorem dX0_mixture_88 : decode cX0_mixture 88 = .ok (.bipush (-6), 2) := by decide +kernel
theorem dX0_mixture_90 : decode cX0_mixture 90 = .ok (.goto 11, 3) := by decide +kernel
theorem dX0_mixture_93 : decode cX0_mixture 93 = .ok (.aload_n 0, 1) := by decide +kernel
theorem dX0_mixture_94 : decode cX0_mixture 94 = .ok (.getfield 15, 3) := by decide +kernel
theorem dX0_mixture_97 : decode cX0_mixture 97 = .ok (.iload_n 2, 1) := by decide +kernel
theorem dX0_mixture_98 : decode cX0_mixture 98 = .ok (.invokestatic 70, 3) := by decide +kernel
theorem dX0_mixture_101 : decode cX0_mixture 101 = .ok (.ireturn, 1) := by decide +kernel
set_option maxRecDepth 20000 in
theorem ggX0_tryParts_X2_allDrops : GoodIn wsX0_tryParts wsX2_allDrops := goodIn_r _ [9, 10, 42, 43, 44, 45, 46, 47, 48, 49, 50, 51, 52, 53] (by decide +kernel) (by decide +kernel)
set_option maxRecDepth 20000 in
theorem gX0_tryParts_X2_allDrops : GoodIn wsX0_tryParts (wsV RX0 45 RX2 yX2_allDrops wsX2_allDrops) := goodIn_app (goodIn_of _ (by decide +kernel)) ggX0_tryParts_X2_allDrops
set_option maxRecDepth 20000 in
theorem ggX0_tryParts_X2_dropsOf : GoodIn wsX0_tryParts wsX2_dropsOf := goodIn_r _ [14, 10, 15, 16, 17, 42, 43, 44, 45, 46, 47, 48, 49, 50, 51, 52, 53] (by decide +kernel) (by decide +kernel)
set_option maxRecDepth 20000 in
theorem gX0_tryParts_X2_dropsOf : GoodIn wsX0_tryParts (wsV RX0 56 RX2 yX2_dropsOf wsX2_dropsOf) := goodIn_app (goodIn_of _ (by decide +kernel)) ggX0_tryParts_X2_dropsOf
set_option maxRecDepth 20000 in
theorem ggX0_tryParts_X4_write : GoodIn wsX0_tryParts wsX4_write := goodIn_r _ [19] (by decide +kernel) (by decide +kernel)
set_option maxRecDepth 20000 in
theorem gX0_tryParts_X4_write_n62 : GoodIn wsX0_tryParts (wsX4_write) := ggX0_tryParts_X4_write
set_option maxRecDepth 20000 in
theorem ggX0_tryParts_X0_mixedStrength : GoodIn wsX0_tryParts wsX0_mixedStrength := goodIn_r _ [24, 2, 3, 15, 16, 17, 25, 26, 36, 37, 38, 39, 40, 41] (by decide +kernel) (by decide +kernel)
set_option maxRecDepth 20000 in
theorem gX0_tryParts_X0_mixedStrength : GoodIn wsX0_tryParts (wsV RX0 74 RX0 yX0_mixedStrength wsX0_mixedStrength) := goodIn_app (goodIn_of _ (by decide +kernel)) ggX0_tryParts_X0_mixedStrength
set_option maxRecDepth 20000 in
theorem ggX0_tryParts_X2_distance : GoodIn wsX0_tryParts wsX2_distance := goodIn_r _ [30, 31, 32, 33, 34, 35, 15, 16, 17, 42, 43, 44, 45, 46, 47, 48, 49, 50, 51, 52, 53] (by decide +kernel) (by decide +kernel)
set_option maxRecDepth 20000 in
theorem gX0_tryParts_X2_distance : GoodIn wsX0_tryParts (wsV RX0 52 RX2 yX2_distance wsX2_distance) := goodIn_app (goodIn_of _ (by decide +kernel)) ggX0_tryParts_X2_distance
set_option maxRecDepth 20000 in
theorem ggX0_tryParts_X4_at : GoodIn wsX0_tryParts wsX4_at := goodIn_r _ [17] (by decide +kernel) (by decide +kernel)
set_option maxRecDepth 20000 in
theorem gX0_tryParts_X4_at_n70 : GoodIn wsX0_tryParts (wsX4_at) := ggX0_tryParts_X4_at
theorem dX0_tryParts_0 : decode cX0_tryParts 0 = .ok (.aload_n 0, 1) := by decide +kernel
theorem dX0_tryParts_1 : decode cX0_tryParts 1 = .ok (.getfield 9, 3) := by decide +kernel
theorem dX0_tryParts_4 : decode cX0_tryParts 4 = .ok (.iload_n 2, 1) := by decide +kernel
theorem dX0_tryParts_5 : decode cX0_tryParts 5 = .ok (.invokevirtual 45, 3) := by decide +kernel
theorem dX0_tryParts_8 : decode cX0_tryParts 8 = .ok (.istore 4, 2) := by decide +kernel
theorem dX0_tryParts_10 : decode cX0_tryParts 10 = .ok (.aload_n 0, 1) := by decide +kernel
theorem dX0_tryParts_11 : decode cX0_tryParts 11 = .ok (.getfield 9, 3) := by decide +kernel
theorem dX0_tryParts_14 : decode cX0_tryParts 14 = .ok (.iload_n 3, 1) := by decide +kernel
theorem dX0_tryParts_15 : decode cX0_tryParts 15 = .ok (.invokevirtual 45, 3) := by decide +kernel
theorem dX0_tryParts_18 : decode cX0_tryParts 18 = .ok (.istore 5, 2) := by decide +kernel
theorem dX0_tryParts_20 : decode cX0_tryParts 20 = .ok (.iconst 0, 1) := by decide +kernel
theorem dX0_tryParts_21 : decode cX0_tryParts 21 = .ok (.istore 6, 2) := by decide +kernel
theorem dX0_tryParts_23 : decode cX0_tryParts 23 = .ok (.iload 6, 2) := by decide +kernel
theorem dX0_tryParts_25 : decode cX0_tryParts 25 = .ok (.iconst 3, 1) := by decide +kernel
theorem dX0_tryParts_26 : decode cX0_tryParts 26 = .ok (.if_icmp .ge 59, 3) := by decide +kernel
theorem dX0_tryParts_29 : decode cX0_tryParts 29 = .ok (.aload_n 0, 1) := by decide +kernel
theorem dX0_tryParts_30 : decode cX0_tryParts 30 = .ok (.getfield 19, 3) := by decide +kernel
theorem dX0_tryParts_33 : decode cX0_tryParts 33 = .ok (.iload 6, 2) := by decide +kernel
theorem dX0_tryParts_35 : decode cX0_tryParts 35 = .ok (.bipush 100, 2) := by decide +kernel
theorem dX0_tryParts_37 : decode cX0_tryParts 37 = .ok (.aload_n 0, 1) := by decide +kernel
theorem dX0_tryParts_38 : decode cX0_tryParts 38 = .ok (.getfield 9, 3) := by decide +kernel
theorem dX0_tryParts_41 : decode cX0_tryParts 41 = .ok (.iload_n 2, 1) := by decide +kernel
theorem dX0_tryParts_42 : decode cX0_tryParts 42 = .ok (.iload 6, 2) := by decide +kernel
theorem dX0_tryParts_44 : decode cX0_tryParts 44 = .ok (.invokevirtual 56, 3) := by decide +kernel
theorem dX0_tryParts_47 : decode cX0_tryParts 47 = .ok (.imul, 1) := by decide +kernel
theorem dX0_tryParts_48 : decode cX0_tryParts 48 = .ok (.iload 5, 2) := by decide +kernel
theorem dX0_tryParts_50 : decode cX0_tryParts 50 = .ok (.imul, 1) := by decide +kernel
theorem dX0_tryParts_51 : decode cX0_tryParts 51 = .ok (.invokestatic 62, 3) := by decide +kernel
theorem dX0_tryParts_54 : decode cX0_tryParts 54 = .ok (.aload_n 0, 1) := by decide +kernel
theorem dX0_tryParts_55 : decode cX0_tryParts 55 = .ok (.getfield 22, 3) := by decide +kernel
theorem dX0_tryParts_58 : decode cX0_tryParts 58 = .ok (.iload 6, 2) := by decide +kernel
theorem dX0_tryParts_60 : decode cX0_tryParts 60 = .ok (.bipush 100, 2) := by decide +kernel
theorem dX0_tryParts_62 : decode cX0_tryParts 62 = .ok (.aload_n 0, 1) := by decide +kernel
theorem dX0_tryParts_63 : decode cX0_tryParts 63 = .ok (.getfield 9, 3) := by decide +kernel
theorem dX0_tryParts_66 : decode cX0_tryParts 66 = .ok (.iload_n 3, 1) := by decide +kernel
theorem dX0_tryParts_67 : decode cX0_tryParts 67 = .ok (.iload 6, 2) := by decide +kernel
theorem dX0_tryParts_69 : decode cX0_tryParts 69 = .ok (.invokevirtual 56, 3) := by decide +kernel
theorem dX0_tryParts_72 : decode cX0_tryParts 72 = .ok (.imul, 1) := by decide +kernel
theorem dX0_tryParts_73 : decode cX0_tryParts 73 = .ok (.iload 4, 2) := by decide +kernel
theorem dX0_tryParts_75 : decode cX0_tryParts 75 = .ok (.imul, 1) := by decide +kernel
theorem dX0_tryParts_76 : decode cX0_tryParts 76 = .ok (.invokestatic 62, 3) := by decide +kernel
theorem dX0_tryParts_79 : decode cX0_tryParts 79 = .ok (.iinc 6 1, 3) := by decide +kernel
theorem dX0_tryParts_82 : decode cX0_tryParts 82 = .ok (.goto (-59), 3) := by decide +kernel
theorem dX0_tryParts_85 : decode cX0_tryParts 85 = .ok (.iconst 1, 1) := by decide +kernel
theorem dX0_tryParts_86 : decode cX0_tryParts 86 = .ok (.istore 6, 2) := by decide +kernel
theorem dX0_tryParts_88 : decode cX0_tryParts 88 = .ok (.iload 6, 2) := by decide +kernel
theorem dX0_tryParts_90 : decode cX0_tryParts 90 = .ok (.bipush 9, 2) := by decide +kernel
theorem dX0_tryParts_92 : decode cX0_tryParts 92 = .ok (.if_icmp .gt 142, 3) := by decide +kernel
theorem dX0_tryParts_95 : decode cX0_tryParts 95 = .ok (.iconst 1, 1) := by decide +kernel
theorem dX0_tryParts_96 : decode cX0_tryParts 96 = .ok (.istore 7, 2) := by decide +kernel
theorem dX0_tryParts_98 : decode cX0_tryParts 98 = .ok (.iload 7, 2) := by decide +kernel
theorem dX0_tryParts_100 : decode cX0_tryParts 100 = .ok (.bipush 9, 2) := by decide +kernel
theorem dX0_tryParts_102 : decode cX0_tryParts 102 = .ok (.if_icmp .gt 126, 3) := by decide +kernel
theorem dX0_tryParts_105 : decode cX0_tryParts 105 = .ok (.iload 4, 2) := by decide +kernel
theorem dX0_tryParts_107 : decode cX0_tryParts 107 = .ok (.iload 5, 2) := by decide +kernel
theorem dX0_tryParts_109 : decode cX0_tryParts 109 = .ok (.imul, 1) := by decide +kernel
theorem dX0_tryParts_110 : decode cX0_tryParts 110 = .ok (.iload 6, 2) := by decide +kernel
theorem dX0_tryParts_112 : decode cX0_tryParts 112 = .ok (.iload 7, 2) := by decide +kernel
theorem dX0_tryParts_114 : decode cX0_tryParts 114 = .ok (.iadd, 1) := by decide +kernel
theorem dX0_tryParts_115 : decode cX0_tryParts 115 = .ok (.imul, 1) := by decide +kernel
theorem dX0_tryParts_116 : decode cX0_tryParts 116 = .ok (.istore 8, 2) := by decide +kernel
theorem dX0_tryParts_118 : decode cX0_tryParts 118 = .ok (.aload_n 0, 1) := by decide +kernel
theorem dX0_tryParts_119 : decode cX0_tryParts 119 = .ok (.getfield 9, 3) := by decide +kernel
theorem dX0_tryParts_122 : decode cX0_tryParts 122 = .ok (.iload_n 1, 1) := by decide +kernel
theorem dX0_tryParts_123 : decode cX0_tryParts 123 = .ok (.aload_n 0, 1) := by decide +kernel
theorem dX0_tryParts_124 : decode cX0_tryParts 124 = .ok (.iconst 0, 1) := by decide +kernel
theorem dX0_tryParts_125 : decode cX0_tryParts 125 = .ok (.iload 6, 2) := by decide +kernel
theorem dX0_tryParts_127 : decode cX0_tryParts 127 = .ok (.iload 7, 2) := by decide +kernel
theorem dX0_tryParts_129 : decode cX0_tryParts 129 = .ok (.iload 8, 2) := by decide +kernel
theorem dX0_tryParts_131 : decode cX0_tryParts 131 = .ok (.invokevirtual 74, 3) := by decide +kernel
theorem dX0_tryParts_134 : decode cX0_tryParts 134 = .ok (.aload_n 0, 1) := by decide +kernel
theorem dX0_tryParts_135 : decode cX0_tryParts 135 = .ok (.iconst 1, 1) := by decide +kernel
theorem dX0_tryParts_136 : decode cX0_tryParts 136 = .ok (.iload 6, 2) := by decide +kernel
theorem dX0_tryParts_138 : decode cX0_tryParts 138 = .ok (.iload 7, 2) := by decide +kernel
theorem dX0_tryParts_140 : decode cX0_tryParts 140 = .ok (.iload 8, 2) := by decide +kernel
theorem dX0_tryParts_142 : decode cX0_tryParts 142 = .ok (.invokevirtual 74, 3) := by decide +kernel
theorem dX0_tryParts_145 : decode cX0_tryParts 145 = .ok (.aload_n 0, 1) := by decide +kernel
theorem dX0_tryParts_146 : decode cX0_tryParts 146 = .ok (.iconst 2, 1) := by decide +kernel
theorem dX0_tryParts_147 : decode cX0_tryParts 147 = .ok (.iload 6, 2) := by decide +kernel
theorem dX0_tryParts_149 : decode cX0_tryParts 149 = .ok (.iload 7, 2) := by decide +kernel
theorem dX0_tryParts_151 : decode cX0_tryParts 151 = .ok (.iload 8, 2) := by decide +kernel
theorem dX0_tryParts_153 : decode cX0_tryParts 153 = .ok (.invokevirtual 74, 3) := by decide +kernel
theorem dX0_tryParts_156 : decode cX0_tryParts 156 = .ok (.invokevirtual 52, 3) := by decide +kernel
theorem dX0_tryParts_159 : decode cX0_tryParts 159 = .ok (.istore 9, 2) := by decide +kernel
theorem dX0_tryParts_161 : decode cX0_tryParts 161 = .ok (.iload 9, 2) := by decide +kernel
theorem dX0_tryParts_163 : decode cX0_tryParts 163 = .ok (.aload_n 0, 1) := by decide +kernel
theorem dX0_tryParts_164 : decode cX0_tryParts 164 = .ok (.getfield 15, 3) := by decide +kernel
theorem dX0_tryParts_167 : decode cX0_tryParts 167 = .ok (.iconst 4, 1) := by decide +kernel
theorem dX0_tryParts_168 : decode cX0_tryParts 168 = .ok (.invokestatic 70, 3) := by decide +kernel
theorem dX0_tryParts_171 : decode cX0_tryParts 171 = .ok (.if_icmp .ge 51, 3) := by decide +kernel
theorem dX0_tryParts_174 : decode cX0_tryParts 174 = .ok (.aload_n 0, 1) := by decide +kernel
theorem dX0_tryParts_175 : decode cX0_tryParts 175 = .ok (.getfield 15, 3) := by decide +kernel
theorem dX0_tryParts_178 : decode cX0_tryParts 178 = .ok (.iconst 0, 1) := by decide +kernel
theorem dX0_tryParts_179 : decode cX0_tryParts 179 = .ok (.iload_n 2, 1) := by decide +kernel
theorem dX0_tryParts_180 : decode cX0_tryParts 180 = .ok (.invokestatic 62, 3) := by decide +kernel
theorem dX0_tryParts_183 : decode cX0_tryParts 183 = .ok (.aload_n 0, 1) := by decide +kernel
theorem dX0_tryParts_184 : decode cX0_tryParts 184 = .ok (.getfield 15, 3) := by decide +kernel
theorem dX0_tryParts_187 : decode cX0_tryParts 187 = .ok (.iconst 1, 1) := by decide +kernel
theorem dX0_tryParts_188 : decode cX0_tryParts 188 = .ok (.iload_n 3, 1) := by decide +kernel
theorem dX0_tryParts_189 : decode cX0_tryParts 189 = .ok (.invokestatic 62, 3) := by decide +kernel
theorem dX0_tryParts_192 : decode cX0_tryParts 192 = .ok (.aload_n 0, 1) := by decide +kernel
theorem dX0_tryParts_193 : decode cX0_tryParts 193 = .ok (.getfield 15, 3) := by decide +kernel
theorem dX0_tryParts_196 : decode cX0_tryParts 196 = .ok (.iconst 2, 1) := by decide +kernel
theorem dX0_tryParts_197 : decode cX0_tryParts 197 = .ok (.iload 6, 2) := by decide +kernel
theorem dX0_tryParts_199 : decode cX0_tryParts 199 = .ok (.invokestatic 62, 3) := by decide +kernel
theorem dX0_tryParts_202 : decode cX0_tryParts 202 = .ok (.aload_n 0, 1) := by decide +kernel
theorem dX0_tryParts_203 : decode cX0_tryParts 203 = .ok (.getfield 15, 3) := by decide +kernel
theorem dX0_tryParts_206 : decode cX0_tryParts 206 = .ok (.iconst 3, 1) := by decide +kernel
theorem dX0_tryParts_207 : decode cX0_tryParts 207 = .ok (.iload 7, 2) := by decide +kernel
theorem dX0_tryParts_209 : decode cX0_tryParts 209 = .ok (.invokestatic 62, 3) := by decide +kernel
theorem dX0_tryParts_212 : decode cX0_tryParts 212 = .ok (.aload_n 0, 1) := by decide +kernel
theorem dX0_tryParts_213 : decode cX0_tryParts 213 = .ok (.getfield 15, 3) := by decide +kernel
theorem dX0_tryParts_216 : decode cX0_tryParts 216 = .ok (.iconst 4, 1) := by decide +kernel
theorem dX0_tryParts_217 : decode cX0_tryParts 217 = .ok (.iload 9, 2) := by decide +kernel
theorem dX0_tryParts_219 : decode cX0_tryParts 219 = .ok (.invokestatic 62, 3) := by decide +kernel
theorem dX0_tryParts_222 : decode cX0_tryParts 222 = .ok (.iinc 7 1, 3) := by decide +kernel
theorem dX0_tryParts_225 : decode cX0_tryParts 225 = .ok (.goto (-127), 3) := by decide +kernel
theorem dX0_tryParts_228 : decode cX0_tryParts 228 = .ok (.iinc 6 1, 3) := by decide +kernel
theorem dX0_tryParts_231 : decode cX0_tryParts 231 = .ok (.goto (-143), 3) := by decide +kernel
theorem dX0_tryParts_234 : decode cX0_tryParts 234 = .ok (.return_, 1) := by decide +kernel
set_option maxRecDepth 20000 in
theorem ggX0_mixedStrength_X4_at : GoodIn wsX0_mixedStrength wsX4_at := goodIn_r _ [5] (by decide +kernel) (by decide +kernel)
set_option maxRecDepth 20000 in
theorem gX0_mixedStrength_X4_at_n70 : GoodIn wsX0_mixedStrength (wsX4_at) := ggX0_mixedStrength_X4_at
set_option maxRecDepth 20000 in
theorem ggX0_mixedStrength_X4_divide : GoodIn wsX0_mixedStrength wsX4_divide := goodIn_r _ [7] (by decide +kernel) (by decide +kernel)
set_option maxRecDepth 20000 in
theorem gX0_mixedStrength_X4_divide_n59 : GoodIn wsX0_mixedStrength (wsX4_divide) := ggX0_mixedStrength_X4_divide
theorem dX0_mixedStrength_0 : decode cX0_mixedStrength 0 = .ok (.aload_n 0, 1) := by decide +kernel
theorem dX0_mixedStrength_1 : decode cX0_mixedStrength 1 = .ok (.getfield 19, 3) := by decide +kernel
theorem dX0_mixedStrength_4 : decode cX0_mixedStrength 4 = .ok (.iload_n 1, 1) := by decide +kernel
theorem dX0_mixedStrength_5 : decode cX0_mixedStrength 5 = .ok (.invokestatic 70, 3) := by decide +kernel
theorem dX0_mixedStrength_8 : decode cX0_mixedStrength 8 = .ok (.iload_n 2, 1) := by decide +kernel
theorem dX0_mixedStrength_9 : decode cX0_mixedStrength 9 = .ok (.imul, 1) := by decide +kernel
theorem dX0_mixedStrength_10 : decode cX0_mixedStrength 10 = .ok (.aload_n 0, 1) := by decide +kernel
theorem dX0_mixedStrength_11 : decode cX0_mixedStrength 11 = .ok (.getfield 22, 3) := by decide +kernel
theorem dX0_mixedStrength_14 : decode cX0_mixedStrength 14 = .ok (.iload_n 1, 1) := by decide +kernel
theorem dX0_mixedStrength_15 : decode cX0_mixedStrength 15 = .ok (.invokestatic 70, 3) := by decide +kernel
theorem dX0_mixedStrength_18 : decode cX0_mixedStrength 18 = .ok (.iload_n 3, 1) := by decide +kernel
theorem dX0_mixedStrength_19 : decode cX0_mixedStrength 19 = .ok (.imul, 1) := by decide +kernel
theorem dX0_mixedStrength_20 : decode cX0_mixedStrength 20 = .ok (.iadd, 1) := by decide +kernel
theorem dX0_mixedStrength_21 : decode cX0_mixedStrength 21 = .ok (.iload 4, 2) := by decide +kernel
theorem dX0_mixedStrength_23 : decode cX0_mixedStrength 23 = .ok (.invokestatic 59, 3) := by decide +kernel
theorem dX0_mixedStrength_26 : decode cX0_mixedStrength 26 = .ok (.ireturn, 1) := by decide +kernel
set_option maxRecDepth 20000 in
theorem ggX0_rinsesFrom_X0_choosePots : GoodIn wsX0_rinsesFrom wsX0_choosePots := goodIn_r _ [6, 1, 7, 8, 9, 5, 10, 11, 12, 13, 14, 15, 16, 17, 18, 19, 20, 21, 22, 23, 24, 25, 26, 27, 28, 29, 30, 31, 32, 33, 34, 35, 36, 37, 38, 39, 40, 41, 42, 43, 44, 45, 46, 47, 48, 49, 50, 51, 52, 53, 54, 55, 56, 57, 58, 59, 60, 61, 62, 63] (by decide +kernel) (by decide +kernel)
set_option maxRecDepth 20000 in
theorem gX0_rinsesFrom_X0_choosePots : GoodIn wsX0_rinsesFrom (wsV RX0 77 RX0 yX0_choosePots wsX0_choosePots) := goodIn_app (goodIn_of _ (by decide +kernel)) ggX0_rinsesFrom_X0_choosePots
set_option maxRecDepth 20000 in
theorem ggX0_rinsesFrom_X4_at : GoodIn wsX0_rinsesFrom wsX4_at := goodIn_r _ [32] (by decide +kernel) (by decide +kernel)
set_option maxRecDepth 20000 in
theorem gX0_rinsesFrom_X4_at_n70 : GoodIn wsX0_rinsesFrom (wsX4_at) := ggX0_rinsesFrom_X4_at
theorem dX0_rinsesFrom_0 : decode cX0_rinsesFrom 0 = .ok (.aload_n 0, 1) := by decide +kernel
theorem dX0_rinsesFrom_1 : decode cX0_rinsesFrom 1 = .ok (.invokevirtual 77, 3) := by decide +kernel
theorem dX0_rinsesFrom_4 : decode cX0_rinsesFrom 4 = .ok (.ifCond .ne 6, 3) := by decide +kernel
theorem dX0_rinsesFrom_7 : decode cX0_rinsesFrom 7 = .ok (.bipush (-6), 2) := by decide +kernel
theorem dX0_rinsesFrom_9 : decode cX0_rinsesFrom 9 = .ok (.ireturn, 1) := by decide +kernel
theorem dX0_rinsesFrom_10 : decode cX0_rinsesFrom 10 = .ok (.iconst 0, 1) := by decide +kernel
theorem dX0_rinsesFrom_11 : decode cX0_rinsesFrom 11 = .ok (.istore_n 2, 1) := by decide +kernel
theorem dX0_rinsesFrom_12 : decode cX0_rinsesFrom 12 = .ok (.iconst 1, 1) := by decide +kernel
theorem dX0_rinsesFrom_13 : decode cX0_rinsesFrom 13 = .ok (.istore_n 3, 1) := by decide +kernel
theorem dX0_rinsesFrom_14 : decode cX0_rinsesFrom 14 = .ok (.iload_n 3, 1) := by decide +kernel
theorem dX0_rinsesFrom_15 : decode cX0_rinsesFrom 15 = .ok (.bipush 6, 2) := by decide +kernel
theorem dX0_rinsesFrom_17 : decode cX0_rinsesFrom 17 = .ok (.if_icmp .ge 56, 3) := by decide +kernel
theorem dX0_rinsesFrom_20 : decode cX0_rinsesFrom 20 = .ok (.iload_n 1, 1) := by decide +kernel
theorem dX0_rinsesFrom_21 : decode cX0_rinsesFrom 21 = .ok (.iload_n 3, 1) := by decide +kernel
theorem dX0_rinsesFrom_22 : decode cX0_rinsesFrom 22 = .ok (.iadd, 1) := by decide +kernel
theorem dX0_rinsesFrom_23 : decode cX0_rinsesFrom 23 = .ok (.bipush 6, 2) := by decide +kernel
theorem dX0_rinsesFrom_25 : decode cX0_rinsesFrom 25 = .ok (.irem, 1) := by decide +kernel
theorem dX0_rinsesFrom_26 : decode cX0_rinsesFrom 26 = .ok (.istore 4, 2) := by decide +kernel
theorem dX0_rinsesFrom_28 : decode cX0_rinsesFrom 28 = .ok (.iload_n 1, 1) := by decide +kernel
theorem dX0_rinsesFrom_29 : decode cX0_rinsesFrom 29 = .ok (.iload_n 3, 1) := by decide +kernel
theorem dX0_rinsesFrom_30 : decode cX0_rinsesFrom 30 = .ok (.iadd, 1) := by decide +kernel
theorem dX0_rinsesFrom_31 : decode cX0_rinsesFrom 31 = .ok (.iconst 1, 1) := by decide +kernel
theorem dX0_rinsesFrom_32 : decode cX0_rinsesFrom 32 = .ok (.isub, 1) := by decide +kernel
theorem dX0_rinsesFrom_33 : decode cX0_rinsesFrom 33 = .ok (.bipush 6, 2) := by decide +kernel
theorem dX0_rinsesFrom_35 : decode cX0_rinsesFrom 35 = .ok (.irem, 1) := by decide +kernel
theorem dX0_rinsesFrom_36 : decode cX0_rinsesFrom 36 = .ok (.istore 5, 2) := by decide +kernel
theorem dX0_rinsesFrom_38 : decode cX0_rinsesFrom 38 = .ok (.iload_n 2, 1) := by decide +kernel
theorem dX0_rinsesFrom_39 : decode cX0_rinsesFrom 39 = .ok (.aload_n 0, 1) := by decide +kernel
theorem dX0_rinsesFrom_40 : decode cX0_rinsesFrom 40 = .ok (.getfield 25, 3) := by decide +kernel
theorem dX0_rinsesFrom_43 : decode cX0_rinsesFrom 43 = .ok (.iload 4, 2) := by decide +kernel
theorem dX0_rinsesFrom_45 : decode cX0_rinsesFrom 45 = .ok (.invokestatic 70, 3) := by decide +kernel
theorem dX0_rinsesFrom_48 : decode cX0_rinsesFrom 48 = .ok (.aload_n 0, 1) := by decide +kernel
theorem dX0_rinsesFrom_49 : decode cX0_rinsesFrom 49 = .ok (.getfield 25, 3) := by decide +kernel
theorem dX0_rinsesFrom_52 : decode cX0_rinsesFrom 52 = .ok (.iload 5, 2) := by decide +kernel
theorem dX0_rinsesFrom_54 : decode cX0_rinsesFrom 54 = .ok (.invokestatic 70, 3) := by decide +kernel
theorem dX0_rinsesFrom_57 : decode cX0_rinsesFrom 57 = .ok (.if_icmp .eq 7, 3) := by decide +kernel
theorem dX0_rinsesFrom_60 : decode cX0_rinsesFrom 60 = .ok (.iconst 1, 1) := by decide +kernel
theorem dX0_rinsesFrom_61 : decode cX0_rinsesFrom 61 = .ok (.goto 4, 3) := by decide +kernel
theorem dX0_rinsesFrom_64 : decode cX0_rinsesFrom 64 = .ok (.iconst 0, 1) := by decide +kernel
theorem dX0_rinsesFrom_65 : decode cX0_rinsesFrom 65 = .ok (.iadd, 1) := by decide +kernel
theorem dX0_rinsesFrom_66 : decode cX0_rinsesFrom 66 = .ok (.istore_n 2, 1) := by decide +kernel
theorem dX0_rinsesFrom_67 : decode cX0_rinsesFrom 67 = .ok (.iinc 3 1, 3) := by decide +kernel
theorem dX0_rinsesFrom_70 : decode cX0_rinsesFrom 70 = .ok (.goto (-56), 3) := by decide +kernel
theorem dX0_rinsesFrom_73 : decode cX0_rinsesFrom 73 = .ok (.iload_n 2, 1) := by decide +kernel
theorem dX0_rinsesFrom_74 : decode cX0_rinsesFrom 74 = .ok (.ireturn, 1) := by decide +kernel
set_option maxRecDepth 20000 in
theorem ggX0_panelInOrder_X0_choosePots : GoodIn wsX0_panelInOrder wsX0_choosePots := goodIn_r _ [7, 1, 8, 9, 10, 6, 11, 12, 13, 14, 15, 16, 17, 18, 19, 20, 21, 22, 23, 24, 25, 26, 27, 28, 29, 30, 31, 32, 33, 34, 35, 36, 37, 38, 39, 40, 41, 42, 43, 44, 45, 46, 51, 52, 53, 54, 55, 56, 57, 58, 59, 60, 61, 62, 63, 64, 65, 66, 67, 68] (by decide +kernel) (by decide +kernel)
set_option maxRecDepth 20000 in
theorem gX0_panelInOrder_X0_choosePots : GoodIn wsX0_panelInOrder (wsV RX0 77 RX0 yX0_choosePots wsX0_choosePots) := goodIn_app (goodIn_of _ (by decide +kernel)) ggX0_panelInOrder_X0_choosePots
set_option maxRecDepth 20000 in
theorem ggX0_panelInOrder_X0_isFirstOfItsPot : GoodIn wsX0_panelInOrder wsX0_isFirstOfItsPot := goodIn_r _ [50, 1, 31, 32, 33, 51, 52, 53, 54, 55, 56] (by decide +kernel) (by decide +kernel)
set_option maxRecDepth 20000 in
theorem gX0_panelInOrder_X0_isFirstOfItsPot : GoodIn wsX0_panelInOrder (wsV RX0 81 RX0 yX0_isFirstOfItsPot wsX0_isFirstOfItsPot) := goodIn_app (goodIn_of _ (by decide +kernel)) ggX0_panelInOrder_X0_isFirstOfItsPot
set_option maxRecDepth 20000 in
theorem ggX0_panelInOrder_X4_at : GoodIn wsX0_panelInOrder wsX4_at := goodIn_r _ [33] (by decide +kernel) (by decide +kernel)
set_option maxRecDepth 20000 in
theorem gX0_panelInOrder_X4_at_n70 : GoodIn wsX0_panelInOrder (wsX4_at) := ggX0_panelInOrder_X4_at
set_option maxRecDepth 20000 in
theorem ggX0_panelInOrder_X4_write : GoodIn wsX0_panelInOrder wsX4_write := goodIn_r _ [46] (by decide +kernel) (by decide +kernel)
set_option maxRecDepth 20000 in
theorem gX0_panelInOrder_X4_write_n62 : GoodIn wsX0_panelInOrder (wsX4_write) := ggX0_panelInOrder_X4_write
theorem dX0_panelInOrder_0 : decode cX0_panelInOrder 0 = .ok (.aload_n 0, 1) := by decide +kernel
theorem dX0_panelInOrder_1 : decode cX0_panelInOrder 1 = .ok (.invokevirtual 77, 3) := by decide +kernel
theorem dX0_panelInOrder_4 : decode cX0_panelInOrder 4 = .ok (.ifCond .ne 6, 3) := by decide +kernel
theorem dX0_panelInOrder_7 : decode cX0_panelInOrder 7 = .ok (.bipush (-6), 2) := by decide +kernel
theorem dX0_panelInOrder_9 : decode cX0_panelInOrder 9 = .ok (.ireturn, 1) := by decide +kernel
theorem dX0_panelInOrder_10 : decode cX0_panelInOrder 10 = .ok (.iconst 0, 1) := by decide +kernel
theorem dX0_panelInOrder_11 : decode cX0_panelInOrder 11 = .ok (.istore_n 2, 1) := by decide +kernel
theorem dX0_panelInOrder_12 : decode cX0_panelInOrder 12 = .ok (.iconst 0, 1) := by decide +kernel
theorem dX0_panelInOrder_13 : decode cX0_panelInOrder 13 = .ok (.istore_n 3, 1) := by decide +kernel
theorem dX0_panelInOrder_14 : decode cX0_panelInOrder 14 = .ok (.iload_n 3, 1) := by decide +kernel
theorem dX0_panelInOrder_15 : decode cX0_panelInOrder 15 = .ok (.bipush 6, 2) := by decide +kernel
theorem dX0_panelInOrder_17 : decode cX0_panelInOrder 17 = .ok (.if_icmp .ge 66, 3) := by decide +kernel
theorem dX0_panelInOrder_20 : decode cX0_panelInOrder 20 = .ok (.aload_n 0, 1) := by decide +kernel
theorem dX0_panelInOrder_21 : decode cX0_panelInOrder 21 = .ok (.iload_n 3, 1) := by decide +kernel
theorem dX0_panelInOrder_22 : decode cX0_panelInOrder 22 = .ok (.invokevirtual 81, 3) := by decide +kernel
theorem dX0_panelInOrder_25 : decode cX0_panelInOrder 25 = .ok (.ifCond .eq 52, 3) := by decide +kernel
theorem dX0_panelInOrder_28 : decode cX0_panelInOrder 28 = .ok (.iload_n 3, 1) := by decide +kernel
theorem dX0_panelInOrder_29 : decode cX0_panelInOrder 29 = .ok (.istore 4, 2) := by decide +kernel
theorem dX0_panelInOrder_31 : decode cX0_panelInOrder 31 = .ok (.iload 4, 2) := by decide +kernel
theorem dX0_panelInOrder_33 : decode cX0_panelInOrder 33 = .ok (.bipush 6, 2) := by decide +kernel
theorem dX0_panelInOrder_35 : decode cX0_panelInOrder 35 = .ok (.if_icmp .ge 42, 3) := by decide +kernel
theorem dX0_panelInOrder_38 : decode cX0_panelInOrder 38 = .ok (.aload_n 0, 1) := by decide +kernel
theorem dX0_panelInOrder_39 : decode cX0_panelInOrder 39 = .ok (.getfield 25, 3) := by decide +kernel
theorem dX0_panelInOrder_42 : decode cX0_panelInOrder 42 = .ok (.iload 4, 2) := by decide +kernel
theorem dX0_panelInOrder_44 : decode cX0_panelInOrder 44 = .ok (.invokestatic 70, 3) := by decide +kernel
theorem dX0_panelInOrder_47 : decode cX0_panelInOrder 47 = .ok (.aload_n 0, 1) := by decide +kernel
theorem dX0_panelInOrder_48 : decode cX0_panelInOrder 48 = .ok (.getfield 25, 3) := by decide +kernel
theorem dX0_panelInOrder_51 : decode cX0_panelInOrder 51 = .ok (.iload_n 3, 1) := by decide +kernel
theorem dX0_panelInOrder_52 : decode cX0_panelInOrder 52 = .ok (.invokestatic 70, 3) := by decide +kernel
theorem dX0_panelInOrder_55 : decode cX0_panelInOrder 55 = .ok (.if_icmp .ne 16, 3) := by decide +kernel
theorem dX0_panelInOrder_58 : decode cX0_panelInOrder 58 = .ok (.aload_n 0, 1) := by decide +kernel
theorem dX0_panelInOrder_59 : decode cX0_panelInOrder 59 = .ok (.getfield 28, 3) := by decide +kernel
theorem dX0_panelInOrder_62 : decode cX0_panelInOrder 62 = .ok (.iload_n 2, 1) := by decide +kernel
theorem dX0_panelInOrder_63 : decode cX0_panelInOrder 63 = .ok (.iload 4, 2) := by decide +kernel
theorem dX0_panelInOrder_65 : decode cX0_panelInOrder 65 = .ok (.invokestatic 62, 3) := by decide +kernel
theorem dX0_panelInOrder_68 : decode cX0_panelInOrder 68 = .ok (.iinc 2 1, 3) := by decide +kernel
theorem dX0_panelInOrder_71 : decode cX0_panelInOrder 71 = .ok (.iinc 4 1, 3) := by decide +kernel
theorem dX0_panelInOrder_74 : decode cX0_panelInOrder 74 = .ok (.goto (-43), 3) := by decide +kernel
theorem dX0_panelInOrder_77 : decode cX0_panelInOrder 77 = .ok (.iinc 3 1, 3) := by decide +kernel
theorem dX0_panelInOrder_80 : decode cX0_panelInOrder 80 = .ok (.goto (-66), 3) := by decide +kernel
theorem dX0_panelInOrder_83 : decode cX0_panelInOrder 83 = .ok (.aload_n 0, 1) := by decide +kernel
theorem dX0_panelInOrder_84 : decode cX0_panelInOrder 84 = .ok (.getfield 28, 3) := by decide +kernel
theorem dX0_panelInOrder_87 : decode cX0_panelInOrder 87 = .ok (.iload_n 1, 1) := by decide +kernel
theorem dX0_panelInOrder_88 : decode cX0_panelInOrder 88 = .ok (.invokestatic 70, 3) := by decide +kernel
theorem dX0_panelInOrder_91 : decode cX0_panelInOrder 91 = .ok (.ireturn, 1) := by decide +kernel
set_option maxRecDepth 20000 in
theorem ggX0_isFirstOfItsPot_X4_at : GoodIn wsX0_isFirstOfItsPot wsX4_at := goodIn_r _ [4] (by decide +kernel) (by decide +kernel)
set_option maxRecDepth 20000 in
theorem gX0_isFirstOfItsPot_X4_at_n70 : GoodIn wsX0_isFirstOfItsPot (wsX4_at) := ggX0_isFirstOfItsPot_X4_at
theorem dX0_isFirstOfItsPot_0 : decode cX0_isFirstOfItsPot 0 = .ok (.iconst 0, 1) := by decide +kernel
theorem dX0_isFirstOfItsPot_1 : decode cX0_isFirstOfItsPot 1 = .ok (.istore_n 2, 1) := by decide +kernel
theorem dX0_isFirstOfItsPot_2 : decode cX0_isFirstOfItsPot 2 = .ok (.iload_n 2, 1) := by decide +kernel
theorem dX0_isFirstOfItsPot_3 : decode cX0_isFirstOfItsPot 3 = .ok (.iload_n 1, 1) := by decide +kernel
theorem dX0_isFirstOfItsPot_4 : decode cX0_isFirstOfItsPot 4 = .ok (.if_icmp .ge 30, 3) := by decide +kernel
theorem dX0_isFirstOfItsPot_7 : decode cX0_isFirstOfItsPot 7 = .ok (.aload_n 0, 1) := by decide +kernel
theorem dX0_isFirstOfItsPot_8 : decode cX0_isFirstOfItsPot 8 = .ok (.getfield 25, 3) := by decide +kernel
theorem dX0_isFirstOfItsPot_11 : decode cX0_isFirstOfItsPot 11 = .ok (.iload_n 2, 1) := by decide +kernel
theorem dX0_isFirstOfItsPot_12 : decode cX0_isFirstOfItsPot 12 = .ok (.invokestatic 70, 3) := by decide +kernel
theorem dX0_isFirstOfItsPot_15 : decode cX0_isFirstOfItsPot 15 = .ok (.aload_n 0, 1) := by decide +kernel
theorem dX0_isFirstOfItsPot_16 : decode cX0_isFirstOfItsPot 16 = .ok (.getfield 25, 3) := by decide +kernel
theorem dX0_isFirstOfItsPot_19 : decode cX0_isFirstOfItsPot 19 = .ok (.iload_n 1, 1) := by decide +kernel
theorem dX0_isFirstOfItsPot_20 : decode cX0_isFirstOfItsPot 20 = .ok (.invokestatic 70, 3) := by decide +kernel
theorem dX0_isFirstOfItsPot_23 : decode cX0_isFirstOfItsPot 23 = .ok (.if_icmp .ne 5, 3) := by decide +kernel
theorem dX0_isFirstOfItsPot_26 : decode cX0_isFirstOfItsPot 26 = .ok (.iconst 0, 1) := by decide +kernel
theorem dX0_isFirstOfItsPot_27 : decode cX0_isFirstOfItsPot 27 = .ok (.ireturn, 1) := by decide +kernel
theorem dX0_isFirstOfItsPot_28 : decode cX0_isFirstOfItsPot 28 = .ok (.iinc 2 1, 3) := by decide +kernel
theorem dX0_isFirstOfItsPot_31 : decode cX0_isFirstOfItsPot 31 = .ok (.goto (-29), 3) := by decide +kernel
theorem dX0_isFirstOfItsPot_34 : decode cX0_isFirstOfItsPot 34 = .ok (.iconst 1, 1) := by decide +kernel
theorem dX0_isFirstOfItsPot_35 : decode cX0_isFirstOfItsPot 35 = .ok (.ireturn, 1) := by decide +kernel
set_option maxRecDepth 20000 in
theorem ggX0_choosePots_X0_nearestPot : GoodIn wsX0_choosePots wsX0_nearestPot := goodIn_r _ [6, 7, 8, 9, 10, 11, 12, 13, 14, 15, 16, 17, 18, 19, 20, 21, 22, 23, 24, 25, 26, 27, 28, 29, 30, 31, 32, 33, 34, 35, 36, 37, 38, 39, 42, 43, 44, 45, 46, 47, 48, 49, 50, 51, 52, 53, 54, 55, 56, 57, 58, 59] (by decide +kernel) (by decide +kernel)
set_option maxRecDepth 20000 in
theorem gX0_choosePots_X0_nearestPot : GoodIn wsX0_choosePots (wsV RX0 84 RX0 yX0_nearestPot wsX0_nearestPot) := goodIn_app (goodIn_of _ (by decide +kernel)) ggX0_choosePots_X0_nearestPot
set_option maxRecDepth 20000 in
theorem ggX0_choosePots_X4_write : GoodIn wsX0_choosePots wsX4_write := goodIn_r _ [41] (by decide +kernel) (by decide +kernel)
set_option maxRecDepth 20000 in
theorem gX0_choosePots_X4_write_n62 : GoodIn wsX0_choosePots (wsX4_write) := ggX0_choosePots_X4_write
set_option maxRecDepth 20000 in
theorem ggX0_choosePots_X4_at : GoodIn wsX0_choosePots wsX4_at := goodIn_r _ [28] (by decide +kernel) (by decide +kernel)
set_option maxRecDepth 20000 in
theorem gX0_choosePots_X4_at_n70 : GoodIn wsX0_choosePots (wsX4_at) := ggX0_choosePots_X4_at
theorem dX0_choosePots_0 : decode cX0_choosePots 0 = .ok (.iconst 0, 1) := by decide +kernel
theorem dX0_choosePots_1 : decode cX0_choosePots 1 = .ok (.istore_n 1, 1) := by decide +kernel
theorem dX0_choosePots_2 : decode cX0_choosePots 2 = .ok (.iload_n 1, 1) := by decide +kernel
theorem dX0_choosePots_3 : decode cX0_choosePots 3 = .ok (.bipush 6, 2) := by decide +kernel
theorem dX0_choosePots_5 : decode cX0_choosePots 5 = .ok (.if_icmp .ge 22, 3) := by decide +kernel
theorem dX0_choosePots_8 : decode cX0_choosePots 8 = .ok (.aload_n 0, 1) := by decide +kernel
theorem dX0_choosePots_9 : decode cX0_choosePots 9 = .ok (.getfield 25, 3) := by decide +kernel
theorem dX0_choosePots_12 : decode cX0_choosePots 12 = .ok (.iload_n 1, 1) := by decide +kernel
theorem dX0_choosePots_13 : decode cX0_choosePots 13 = .ok (.aload_n 0, 1) := by decide +kernel
theorem dX0_choosePots_14 : decode cX0_choosePots 14 = .ok (.iload_n 1, 1) := by decide +kernel
theorem dX0_choosePots_15 : decode cX0_choosePots 15 = .ok (.invokevirtual 84, 3) := by decide +kernel
theorem dX0_choosePots_18 : decode cX0_choosePots 18 = .ok (.invokestatic 62, 3) := by decide +kernel
theorem dX0_choosePots_21 : decode cX0_choosePots 21 = .ok (.iinc 1 1, 3) := by decide +kernel
theorem dX0_choosePots_24 : decode cX0_choosePots 24 = .ok (.goto (-22), 3) := by decide +kernel
theorem dX0_choosePots_27 : decode cX0_choosePots 27 = .ok (.aload_n 0, 1) := by decide +kernel
theorem dX0_choosePots_28 : decode cX0_choosePots 28 = .ok (.getfield 25, 3) := by decide +kernel
theorem dX0_choosePots_31 : decode cX0_choosePots 31 = .ok (.iconst 0, 1) := by decide +kernel
theorem dX0_choosePots_32 : decode cX0_choosePots 32 = .ok (.invokestatic 70, 3) := by decide +kernel
theorem dX0_choosePots_35 : decode cX0_choosePots 35 = .ok (.bipush (-6), 2) := by decide +kernel
theorem dX0_choosePots_37 : decode cX0_choosePots 37 = .ok (.if_icmp .eq 7, 3) := by decide +kernel
theorem dX0_choosePots_40 : decode cX0_choosePots 40 = .ok (.iconst 1, 1) := by decide +kernel
theorem dX0_choosePots_41 : decode cX0_choosePots 41 = .ok (.goto 4, 3) := by decide +kernel
theorem dX0_choosePots_44 : decode cX0_choosePots 44 = .ok (.iconst 0, 1) := by decide +kernel
theorem dX0_choosePots_45 : decode cX0_choosePots 45 = .ok (.ireturn, 1) := by decide +kernel
set_option maxRecDepth 20000 in
theorem ggX1_init_X3_init : GoodIn wsX1_init wsX3_init := goodIn_r _ [14, 15, 2, 3, 4, 16, 17, 18, 19, 10, 20, 21, 22, 23, 24, 25, 26, 27, 32, 33, 34, 35, 36] (by decide +kernel) (by decide +kernel)
set_option maxRecDepth 20000 in
theorem gX1_init_X3_init : GoodIn wsX1_init (wsX3_init) := ggX1_init_X3_init
theorem dX1_init_0 : decode cX1_init 0 = .ok (.aload_n 0, 1) := by decide +kernel
theorem dX1_init_1 : decode cX1_init 1 = .ok (.invokespecial 3, 3) := by decide +kernel
theorem dX1_init_4 : decode cX1_init 4 = .ok (.aload_n 0, 1) := by decide +kernel
theorem dX1_init_5 : decode cX1_init 5 = .ok (.bipush 60, 2) := by decide +kernel
theorem dX1_init_7 : decode cX1_init 7 = .ok (.newarray .int, 2) := by decide +kernel
theorem dX1_init_9 : decode cX1_init 9 = .ok (.putfield 9, 3) := by decide +kernel
theorem dX1_init_12 : decode cX1_init 12 = .ok (.aload_n 0, 1) := by decide +kernel
theorem dX1_init_13 : decode cX1_init 13 = .ok (.iconst 0, 1) := by decide +kernel
theorem dX1_init_14 : decode cX1_init 14 = .ok (.putfield 15, 3) := by decide +kernel
theorem dX1_init_17 : decode cX1_init 17 = .ok (.aload_n 0, 1) := by decide +kernel
theorem dX1_init_18 : decode cX1_init 18 = .ok (.iconst 0, 1) := by decide +kernel
theorem dX1_init_19 : decode cX1_init 19 = .ok (.putfield 19, 3) := by decide +kernel
theorem dX1_init_22 : decode cX1_init 22 = .ok (.aload_n 0, 1) := by decide +kernel
theorem dX1_init_23 : decode cX1_init 23 = .ok (.new 22, 3) := by decide +kernel
theorem dX1_init_26 : decode cX1_init 26 = .ok (.dup, 1) := by decide +kernel
theorem dX1_init_27 : decode cX1_init 27 = .ok (.invokespecial 24, 3) := by decide +kernel
theorem dX1_init_30 : decode cX1_init 30 = .ok (.putfield 25, 3) := by decide +kernel
theorem dX1_init_33 : decode cX1_init 33 = .ok (.return_, 1) := by decide +kernel
theorem dX1_length_0 : decode cX1_length 0 = .ok (.aload_n 0, 1) := by decide +kernel
theorem dX1_length_1 : decode cX1_length 1 = .ok (.getfield 15, 3) := by decide +kernel
theorem dX1_length_4 : decode cX1_length 4 = .ok (.ireturn, 1) := by decide +kernel
theorem dX1_clear_0 : decode cX1_clear 0 = .ok (.aload_n 0, 1) := by decide +kernel
theorem dX1_clear_1 : decode cX1_clear 1 = .ok (.getfield 15, 3) := by decide +kernel
theorem dX1_clear_4 : decode cX1_clear 4 = .ok (.istore_n 1, 1) := by decide +kernel
theorem dX1_clear_5 : decode cX1_clear 5 = .ok (.aload_n 0, 1) := by decide +kernel
theorem dX1_clear_6 : decode cX1_clear 6 = .ok (.iconst 0, 1) := by decide +kernel
theorem dX1_clear_7 : decode cX1_clear 7 = .ok (.putfield 15, 3) := by decide +kernel
theorem dX1_clear_10 : decode cX1_clear 10 = .ok (.iload_n 1, 1) := by decide +kernel
theorem dX1_clear_11 : decode cX1_clear 11 = .ok (.ireturn, 1) := by decide +kernel
set_option maxRecDepth 20000 in
theorem ggX1_append_X1_charactersIn : GoodIn wsX1_append wsX1_charactersIn := goodIn_r _ [6, 7, 8, 5, 9, 10, 11, 12, 13] (by decide +kernel) (by decide +kernel)
set_option maxRecDepth 20000 in
theorem gX1_append_X1_charactersIn : GoodIn wsX1_append (va_wsS RX1 29 yX1_charactersIn wsX1_charactersIn) := goodIn_app (goodIn_of _ (by decide +kernel)) ggX1_append_X1_charactersIn
set_option maxRecDepth 20000 in
theorem ggX1_append_X1_code : GoodIn wsX1_append wsX1_code := goodIn_r _ [9, 10] (by decide +kernel) (by decide +kernel)
set_option maxRecDepth 20000 in
theorem gX1_append_X1_code : GoodIn wsX1_append (va_wsS RX1 33 yX1_code wsX1_code) := goodIn_app (goodIn_of _ (by decide +kernel)) ggX1_append_X1_code
set_option maxRecDepth 20000 in
theorem ggX1_append_X4_write : GoodIn wsX1_append wsX4_write := goodIn_r _ [15] (by decide +kernel) (by decide +kernel)
set_option maxRecDepth 20000 in
theorem gX1_append_X4_write_n37 : GoodIn wsX1_append (wsX4_write) := ggX1_append_X4_write
theorem dX1_append_0 : decode cX1_append 0 = .ok (.lload_n 1, 1) := by decide +kernel
theorem dX1_append_1 : decode cX1_append 1 = .ok (.invokestatic 29, 3) := by decide +kernel
theorem dX1_append_4 : decode cX1_append 4 = .ok (.istore_n 3, 1) := by decide +kernel
theorem dX1_append_5 : decode cX1_append 5 = .ok (.iload_n 3, 1) := by decide +kernel
theorem dX1_append_6 : decode cX1_append 6 = .ok (.bipush (-2), 2) := by decide +kernel
theorem dX1_append_8 : decode cX1_append 8 = .ok (.if_icmp .ne 6, 3) := by decide +kernel
theorem dX1_append_11 : decode cX1_append 11 = .ok (.bipush (-2), 2) := by decide +kernel
theorem dX1_append_13 : decode cX1_append 13 = .ok (.ireturn, 1) := by decide +kernel
theorem dX1_append_14 : decode cX1_append 14 = .ok (.aload_n 0, 1) := by decide +kernel
theorem dX1_append_15 : decode cX1_append 15 = .ok (.getfield 15, 3) := by decide +kernel
theorem dX1_append_18 : decode cX1_append 18 = .ok (.iload_n 3, 1) := by decide +kernel
theorem dX1_append_19 : decode cX1_append 19 = .ok (.iadd, 1) := by decide +kernel
theorem dX1_append_20 : decode cX1_append 20 = .ok (.bipush 60, 2) := by decide +kernel
theorem dX1_append_22 : decode cX1_append 22 = .ok (.if_icmp .le 6, 3) := by decide +kernel
theorem dX1_append_25 : decode cX1_append 25 = .ok (.bipush (-4), 2) := by decide +kernel
theorem dX1_append_27 : decode cX1_append 27 = .ok (.ireturn, 1) := by decide +kernel
theorem dX1_append_28 : decode cX1_append 28 = .ok (.iload_n 3, 1) := by decide +kernel
theorem dX1_append_29 : decode cX1_append 29 = .ok (.iconst 1, 1) := by decide +kernel
theorem dX1_append_30 : decode cX1_append 30 = .ok (.isub, 1) := by decide +kernel
theorem dX1_append_31 : decode cX1_append 31 = .ok (.istore 4, 2) := by decide +kernel
theorem dX1_append_33 : decode cX1_append 33 = .ok (.iload 4, 2) := by decide +kernel
theorem dX1_append_35 : decode cX1_append 35 = .ok (.ifCond .lt 36, 3) := by decide +kernel
theorem dX1_append_38 : decode cX1_append 38 = .ok (.aload_n 0, 1) := by decide +kernel
theorem dX1_append_39 : decode cX1_append 39 = .ok (.getfield 9, 3) := by decide +kernel
theorem dX1_append_42 : decode cX1_append 42 = .ok (.aload_n 0, 1) := by decide +kernel
theorem dX1_append_43 : decode cX1_append 43 = .ok (.getfield 15, 3) := by decide +kernel
theorem dX1_append_46 : decode cX1_append 46 = .ok (.lload_n 1, 1) := by decide +kernel
theorem dX1_append_47 : decode cX1_append 47 = .ok (.iload 4, 2) := by decide +kernel
theorem dX1_append_49 : decode cX1_append 49 = .ok (.invokestatic 33, 3) := by decide +kernel
theorem dX1_append_52 : decode cX1_append 52 = .ok (.invokestatic 37, 3) := by decide +kernel
theorem dX1_append_55 : decode cX1_append 55 = .ok (.aload_n 0, 1) := by decide +kernel
theorem dX1_append_56 : decode cX1_append 56 = .ok (.dup, 1) := by decide +kernel
theorem dX1_append_57 : decode cX1_append 57 = .ok (.getfield 15, 3) := by decide +kernel
theorem dX1_append_60 : decode cX1_append 60 = .ok (.iconst 1, 1) := by decide +kernel
theorem dX1_append_61 : decode cX1_append 61 = .ok (.iadd, 1) := by decide +kernel
theorem dX1_append_62 : decode cX1_append 62 = .ok (.putfield 15, 3) := by decide +kernel
theorem dX1_append_65 : decode cX1_append 65 = .ok (.iinc 4 (-1), 3) := by decide +kernel
theorem dX1_append_68 : decode cX1_append 68 = .ok (.goto (-35), 3) := by decide +kernel
theorem dX1_append_71 : decode cX1_append 71 = .ok (.aload_n 0, 1) := by decide +kernel
theorem dX1_append_72 : decode cX1_append 72 = .ok (.getfield 15, 3) := by decide +kernel
theorem dX1_append_75 : decode cX1_append 75 = .ok (.ireturn, 1) := by decide +kernel
set_option maxRecDepth 20000 in
theorem ggX1_charactersIn_X1_code : GoodIn wsX1_charactersIn wsX1_code := goodIn_r _ [4, 5] (by decide +kernel) (by decide +kernel)
set_option maxRecDepth 20000 in
theorem gX1_charactersIn_X1_code : GoodIn wsX1_charactersIn (va_wsS RX1 33 yX1_code wsX1_code) := goodIn_app (goodIn_of _ (by decide +kernel)) ggX1_charactersIn_X1_code
set_option maxRecDepth 20000 in
theorem ggX1_charactersIn_X4_isBetween : GoodIn wsX1_charactersIn wsX4_isBetween := goodIn_r _ [8] (by decide +kernel) (by decide +kernel)
set_option maxRecDepth 20000 in
theorem gX1_charactersIn_X4_isBetween_n41 : GoodIn wsX1_charactersIn (wsX4_isBetween) := ggX1_charactersIn_X4_isBetween
theorem dX1_charactersIn_0 : decode cX1_charactersIn 0 = .ok (.iconst 0, 1) := by decide +kernel
theorem dX1_charactersIn_1 : decode cX1_charactersIn 1 = .ok (.istore_n 2, 1) := by decide +kernel
theorem dX1_charactersIn_2 : decode cX1_charactersIn 2 = .ok (.iload_n 2, 1) := by decide +kernel
theorem dX1_charactersIn_3 : decode cX1_charactersIn 3 = .ok (.bipush 8, 2) := by decide +kernel
theorem dX1_charactersIn_5 : decode cX1_charactersIn 5 = .ok (.if_icmp .ge 35, 3) := by decide +kernel
theorem dX1_charactersIn_8 : decode cX1_charactersIn 8 = .ok (.lload_n 0, 1) := by decide +kernel
theorem dX1_charactersIn_9 : decode cX1_charactersIn 9 = .ok (.iload_n 2, 1) := by decide +kernel
theorem dX1_charactersIn_10 : decode cX1_charactersIn 10 = .ok (.invokestatic 33, 3) := by decide +kernel
theorem dX1_charactersIn_13 : decode cX1_charactersIn 13 = .ok (.ifCond .eq 27, 3) := by decide +kernel
theorem dX1_charactersIn_16 : decode cX1_charactersIn 16 = .ok (.lload_n 0, 1) := by decide +kernel
theorem dX1_charactersIn_17 : decode cX1_charactersIn 17 = .ok (.iload_n 2, 1) := by decide +kernel
theorem dX1_charactersIn_18 : decode cX1_charactersIn 18 = .ok (.invokestatic 33, 3) := by decide +kernel
theorem dX1_charactersIn_21 : decode cX1_charactersIn 21 = .ok (.bipush 33, 2) := by decide +kernel
theorem dX1_charactersIn_23 : decode cX1_charactersIn 23 = .ok (.bipush 126, 2) := by decide +kernel
theorem dX1_charactersIn_25 : decode cX1_charactersIn 25 = .ok (.invokestatic 41, 3) := by decide +kernel
theorem dX1_charactersIn_28 : decode cX1_charactersIn 28 = .ok (.ifCond .ne 6, 3) := by decide +kernel
theorem dX1_charactersIn_31 : decode cX1_charactersIn 31 = .ok (.bipush (-2), 2) := by decide +kernel
theorem dX1_charactersIn_33 : decode cX1_charactersIn 33 = .ok (.ireturn, 1) := by decide +kernel
theorem dX1_charactersIn_34 : decode cX1_charactersIn 34 = .ok (.iinc 2 1, 3) := by decide +kernel
theorem dX1_charactersIn_37 : decode cX1_charactersIn 37 = .ok (.goto (-35), 3) := by decide +kernel
theorem dX1_charactersIn_40 : decode cX1_charactersIn 40 = .ok (.iload_n 2, 1) := by decide +kernel
theorem dX1_charactersIn_41 : decode cX1_charactersIn 41 = .ok (.bipush 8, 2) := by decide +kernel
theorem dX1_charactersIn_43 : decode cX1_charactersIn 43 = .ok (.if_icmp .ge 18, 3) := by decide +kernel
theorem dX1_charactersIn_46 : decode cX1_charactersIn 46 = .ok (.lload_n 0, 1) := by decide +kernel
theorem dX1_charactersIn_47 : decode cX1_charactersIn 47 = .ok (.bipush 8, 2) := by decide +kernel
theorem dX1_charactersIn_49 : decode cX1_charactersIn 49 = .ok (.iload_n 2, 1) := by decide +kernel
theorem dX1_charactersIn_50 : decode cX1_charactersIn 50 = .ok (.imul, 1) := by decide +kernel
theorem dX1_charactersIn_51 : decode cX1_charactersIn 51 = .ok (.lushr, 1) := by decide +kernel
theorem dX1_charactersIn_52 : decode cX1_charactersIn 52 = .ok (.lconst 0, 1) := by decide +kernel
theorem dX1_charactersIn_53 : decode cX1_charactersIn 53 = .ok (.lcmp, 1) := by decide +kernel
theorem dX1_charactersIn_54 : decode cX1_charactersIn 54 = .ok (.ifCond .eq 7, 3) := by decide +kernel
theorem dX1_charactersIn_57 : decode cX1_charactersIn 57 = .ok (.iconst 1, 1) := by decide +kernel
theorem dX1_charactersIn_58 : decode cX1_charactersIn 58 = .ok (.goto 4, 3) := by decide +kernel
theorem dX1_charactersIn_61 : decode cX1_charactersIn 61 = .ok (.iconst 0, 1) := by decide +kernel
theorem dX1_charactersIn_62 : decode cX1_charactersIn 62 = .ok (.istore_n 3, 1) := by decide +kernel
theorem dX1_charactersIn_63 : decode cX1_charactersIn 63 = .ok (.iload_n 2, 1) := by decide +kernel
theorem dX1_charactersIn_64 : decode cX1_charactersIn 64 = .ok (.ifCond .eq 7, 3) := by decide +kernel
theorem dX1_charactersIn_67 : decode cX1_charactersIn 67 = .ok (.iload_n 3, 1) := by decide +kernel
theorem dX1_charactersIn_68 : decode cX1_charactersIn 68 = .ok (.ifCond .eq 8, 3) := by decide +kernel
theorem dX1_charactersIn_71 : decode cX1_charactersIn 71 = .ok (.bipush (-2), 2) := by decide +kernel
theorem dX1_charactersIn_73 : decode cX1_charactersIn 73 = .ok (.goto 4, 3) := by decide +kernel
theorem dX1_charactersIn_76 : decode cX1_charactersIn 76 = .ok (.iload_n 2, 1) := by decide +kernel
theorem dX1_charactersIn_77 : decode cX1_charactersIn 77 = .ok (.ireturn, 1) := by decide +kernel
theorem dX1_code_0 : decode cX1_code 0 = .ok (.lload_n 0, 1) := by decide +kernel
theorem dX1_code_1 : decode cX1_code 1 = .ok (.bipush 8, 2) := by decide +kernel
theorem dX1_code_3 : decode cX1_code 3 = .ok (.iload_n 2, 1) := by decide +kernel
theorem dX1_code_4 : decode cX1_code 4 = .ok (.imul, 1) := by decide +kernel
theorem dX1_code_5 : decode cX1_code 5 = .ok (.lushr, 1) := by decide +kernel
theorem dX1_code_6 : decode cX1_code 6 = .ok (.ldc2_w 45, 3) := by decide +kernel
theorem dX1_code_9 : decode cX1_code 9 = .ok (.land, 1) := by decide +kernel
theorem dX1_code_10 : decode cX1_code 10 = .ok (.l2i, 1) := by decide +kernel
theorem dX1_code_11 : decode cX1_code 11 = .ok (.ireturn, 1) := by decide +kernel
set_option maxRecDepth 20000 in
theorem ggX1_firstFault_X1_readWork : GoodIn wsX1_firstFault wsX1_readWork := goodIn_r _ [7, 1, 8, 9, 10, 11, 6, 12, 13, 14, 15, 16, 2, 17, 18, 19, 20, 21, 22, 23, 24, 25, 26, 27, 28, 29, 30, 31, 32, 33, 34, 35, 36, 37, 38, 39, 40, 41, 42, 43, 44, 45, 46, 47, 48, 49, 50, 51, 52, 53, 54, 55, 56, 57, 58, 59, 60, 61, 62, 63, 64, 65, 66, 67, 68, 69, 70, 71, 72, 73, 74, 75, 76, 77, 78, 79, 80] (by decide +kernel) (by decide +kernel)
set_option maxRecDepth 20000 in
theorem gX1_firstFault_X1_readWork : GoodIn wsX1_firstFault (wsV RX1 47 RX1 yX1_readWork wsX1_readWork) := goodIn_app (goodIn_of _ (by decide +kernel)) ggX1_firstFault_X1_readWork
set_option maxRecDepth 20000 in
theorem ggX1_firstFault_X1_readSign : GoodIn wsX1_firstFault wsX1_readSign := goodIn_r _ [63, 1, 13, 14, 15, 6, 16, 2, 17, 72, 73, 74, 75] (by decide +kernel) (by decide +kernel)
set_option maxRecDepth 20000 in
theorem gX1_firstFault_X1_readSign : GoodIn wsX1_firstFault (wsV RX1 51 RX1 yX1_readSign wsX1_readSign) := goodIn_app (goodIn_of _ (by decide +kernel)) ggX1_firstFault_X1_readSign
theorem dX1_firstFault_0 : decode cX1_firstFault 0 = .ok (.aload_n 0, 1) := by decide +kernel
theorem dX1_firstFault_1 : decode cX1_firstFault 1 = .ok (.iconst 0, 1) := by decide +kernel
theorem dX1_firstFault_2 : decode cX1_firstFault 2 = .ok (.putfield 19, 3) := by decide +kernel
theorem dX1_firstFault_5 : decode cX1_firstFault 5 = .ok (.aload_n 0, 1) := by decide +kernel
theorem dX1_firstFault_6 : decode cX1_firstFault 6 = .ok (.invokevirtual 47, 3) := by decide +kernel
theorem dX1_firstFault_9 : decode cX1_firstFault 9 = .ok (.istore_n 1, 1) := by decide +kernel
theorem dX1_firstFault_10 : decode cX1_firstFault 10 = .ok (.iconst 0, 1) := by decide +kernel
theorem dX1_firstFault_11 : decode cX1_firstFault 11 = .ok (.istore_n 2, 1) := by decide +kernel
theorem dX1_firstFault_12 : decode cX1_firstFault 12 = .ok (.iload_n 2, 1) := by decide +kernel
theorem dX1_firstFault_13 : decode cX1_firstFault 13 = .ok (.bipush 60, 2) := by decide +kernel
theorem dX1_firstFault_15 : decode cX1_firstFault 15 = .ok (.if_icmp .ge 46, 3) := by decide +kernel
theorem dX1_firstFault_18 : decode cX1_firstFault 18 = .ok (.iload_n 1, 1) := by decide +kernel
theorem dX1_firstFault_19 : decode cX1_firstFault 19 = .ok (.ifCond .eq 42, 3) := by decide +kernel
theorem dX1_firstFault_22 : decode cX1_firstFault 22 = .ok (.aload_n 0, 1) := by decide +kernel
theorem dX1_firstFault_23 : decode cX1_firstFault 23 = .ok (.getfield 19, 3) := by decide +kernel
theorem dX1_firstFault_26 : decode cX1_firstFault 26 = .ok (.aload_n 0, 1) := by decide +kernel
theorem dX1_firstFault_27 : decode cX1_firstFault 27 = .ok (.getfield 15, 3) := by decide +kernel
theorem dX1_firstFault_30 : decode cX1_firstFault 30 = .ok (.if_icmp .ge 31, 3) := by decide +kernel
theorem dX1_firstFault_33 : decode cX1_firstFault 33 = .ok (.aload_n 0, 1) := by decide +kernel
theorem dX1_firstFault_34 : decode cX1_firstFault 34 = .ok (.bipush 59, 2) := by decide +kernel
theorem dX1_firstFault_36 : decode cX1_firstFault 36 = .ok (.invokevirtual 51, 3) := by decide +kernel
theorem dX1_firstFault_39 : decode cX1_firstFault 39 = .ok (.ifCond .eq 14, 3) := by decide +kernel
theorem dX1_firstFault_42 : decode cX1_firstFault 42 = .ok (.aload_n 0, 1) := by decide +kernel
theorem dX1_firstFault_43 : decode cX1_firstFault 43 = .ok (.invokevirtual 47, 3) := by decide +kernel
theorem dX1_firstFault_46 : decode cX1_firstFault 46 = .ok (.ifCond .eq 7, 3) := by decide +kernel
theorem dX1_firstFault_49 : decode cX1_firstFault 49 = .ok (.iconst 1, 1) := by decide +kernel
theorem dX1_firstFault_50 : decode cX1_firstFault 50 = .ok (.goto 4, 3) := by decide +kernel
theorem dX1_firstFault_53 : decode cX1_firstFault 53 = .ok (.iconst 0, 1) := by decide +kernel
theorem dX1_firstFault_54 : decode cX1_firstFault 54 = .ok (.istore_n 1, 1) := by decide +kernel
theorem dX1_firstFault_55 : decode cX1_firstFault 55 = .ok (.iinc 2 1, 3) := by decide +kernel
theorem dX1_firstFault_58 : decode cX1_firstFault 58 = .ok (.goto (-46), 3) := by decide +kernel
theorem dX1_firstFault_61 : decode cX1_firstFault 61 = .ok (.iload_n 1, 1) := by decide +kernel
theorem dX1_firstFault_62 : decode cX1_firstFault 62 = .ok (.ifCond .eq 8, 3) := by decide +kernel
theorem dX1_firstFault_65 : decode cX1_firstFault 65 = .ok (.bipush (-6), 2) := by decide +kernel
theorem dX1_firstFault_67 : decode cX1_firstFault 67 = .ok (.goto 7, 3) := by decide +kernel
theorem dX1_firstFault_70 : decode cX1_firstFault 70 = .ok (.aload_n 0, 1) := by decide +kernel
theorem dX1_firstFault_71 : decode cX1_firstFault 71 = .ok (.getfield 19, 3) := by decide +kernel
theorem dX1_firstFault_74 : decode cX1_firstFault 74 = .ok (.ireturn, 1) := by decide +kernel
set_option maxRecDepth 20000 in
theorem ggX1_readFirst_X1_readWork : GoodIn wsX1_readFirst wsX1_readWork := goodIn_r _ [6, 1, 7, 8, 9, 10, 5, 11, 12, 13, 14, 15, 16, 17, 18, 19, 20, 21, 22, 23, 24, 25, 26, 27, 28, 29, 30, 31, 32, 33, 34, 35, 36, 37, 38, 39, 40, 41, 42, 43, 44, 45, 46, 47, 48, 49, 50, 51, 52, 53, 54, 55, 56, 57, 58, 59, 60, 61, 62, 63, 64, 65, 66, 67, 68, 69, 70, 71, 72, 73, 74, 75, 76, 77, 78, 79, 80] (by decide +kernel) (by decide +kernel)
set_option maxRecDepth 20000 in
theorem gX1_readFirst_X1_readWork : GoodIn wsX1_readFirst (wsV RX1 47 RX1 yX1_readWork wsX1_readWork) := goodIn_app (goodIn_of _ (by decide +kernel)) ggX1_readFirst_X1_readWork
theorem dX1_readFirst_0 : decode cX1_readFirst 0 = .ok (.aload_n 0, 1) := by decide +kernel
theorem dX1_readFirst_1 : decode cX1_readFirst 1 = .ok (.iconst 0, 1) := by decide +kernel
theorem dX1_readFirst_2 : decode cX1_readFirst 2 = .ok (.putfield 19, 3) := by decide +kernel
theorem dX1_readFirst_5 : decode cX1_readFirst 5 = .ok (.aload_n 0, 1) := by decide +kernel
theorem dX1_readFirst_6 : decode cX1_readFirst 6 = .ok (.invokevirtual 47, 3) := by decide +kernel
theorem dX1_readFirst_9 : decode cX1_readFirst 9 = .ok (.ireturn, 1) := by decide +kernel
set_option maxRecDepth 20000 in
theorem ggX1_readNext_X1_readSign : GoodIn wsX1_readNext wsX1_readSign := goodIn_r _ [5, 6, 7, 8, 9, 4, 10, 11, 12, 72, 73, 74, 75] (by decide +kernel) (by decide +kernel)
set_option maxRecDepth 20000 in
theorem gX1_readNext_X1_readSign : GoodIn wsX1_readNext (wsV RX1 51 RX1 yX1_readSign wsX1_readSign) := goodIn_app (goodIn_of _ (by decide +kernel)) ggX1_readNext_X1_readSign
set_option maxRecDepth 20000 in
theorem ggX1_readNext_X1_readWork : GoodIn wsX1_readNext wsX1_readWork := goodIn_r _ [16, 6, 17, 18, 19, 20, 4, 21, 7, 8, 9, 10, 11, 12, 22, 23, 24, 25, 26, 27, 28, 29, 30, 31, 32, 33, 34, 35, 36, 37, 38, 39, 40, 41, 42, 43, 44, 45, 46, 47, 48, 49, 50, 51, 52, 53, 54, 55, 56, 57, 58, 59, 60, 61, 62, 63, 1, 2, 3, 5, 64, 65, 66, 67, 68, 69, 70, 71, 72, 73, 74, 75, 76, 77, 78, 79, 80] (by decide +kernel) (by decide +kernel)
set_option maxRecDepth 20000 in
theorem gX1_readNext_X1_readWork : GoodIn wsX1_readNext (wsV RX1 47 RX1 yX1_readWork wsX1_readWork) := goodIn_app (goodIn_of _ (by decide +kernel)) ggX1_readNext_X1_readWork
theorem dX1_readNext_0 : decode cX1_readNext 0 = .ok (.aload_n 0, 1) := by decide +kernel
theorem dX1_readNext_1 : decode cX1_readNext 1 = .ok (.bipush 59, 2) := by decide +kernel
theorem dX1_readNext_3 : decode cX1_readNext 3 = .ok (.invokevirtual 51, 3) := by decide +kernel
theorem dX1_readNext_6 : decode cX1_readNext 6 = .ok (.ifCond .eq 14, 3) := by decide +kernel
theorem dX1_readNext_9 : decode cX1_readNext 9 = .ok (.aload_n 0, 1) := by decide +kernel
theorem dX1_readNext_10 : decode cX1_readNext 10 = .ok (.invokevirtual 47, 3) := by decide +kernel
theorem dX1_readNext_13 : decode cX1_readNext 13 = .ok (.ifCond .eq 7, 3) := by decide +kernel
theorem dX1_readNext_16 : decode cX1_readNext 16 = .ok (.iconst 1, 1) := by decide +kernel
theorem dX1_readNext_17 : decode cX1_readNext 17 = .ok (.goto 4, 3) := by decide +kernel
theorem dX1_readNext_20 : decode cX1_readNext 20 = .ok (.iconst 0, 1) := by decide +kernel
theorem dX1_readNext_21 : decode cX1_readNext 21 = .ok (.ireturn, 1) := by decide +kernel
theorem dX1_lastRead_0 : decode cX1_lastRead 0 = .ok (.aload_n 0, 1) := by decide +kernel
theorem dX1_lastRead_1 : decode cX1_lastRead 1 = .ok (.getfield 25, 3) := by decide +kernel
theorem dX1_lastRead_4 : decode cX1_lastRead 4 = .ok (.areturn, 1) := by decide +kernel
set_option maxRecDepth 20000 in
theorem ggX1_readWork_X1_readDigit : GoodIn wsX1_readWork wsX1_readDigit := goodIn_r _ [7, 1, 8, 9, 10, 6, 11, 12, 13, 14, 15, 16, 68, 69, 70, 71] (by decide +kernel) (by decide +kernel)
set_option maxRecDepth 20000 in
theorem gX1_readWork_X1_readDigit : GoodIn wsX1_readWork (wsV RX1 55 RX1 yX1_readDigit wsX1_readDigit) := goodIn_app (goodIn_of _ (by decide +kernel)) ggX1_readWork_X1_readDigit
set_option maxRecDepth 20000 in
theorem ggX1_readWork_X1_sign : GoodIn wsX1_readWork wsX1_sign := goodIn_r _ [11, 1, 12, 13, 68, 69, 70, 71] (by decide +kernel) (by decide +kernel)
set_option maxRecDepth 20000 in
theorem gX1_readWork_X1_sign : GoodIn wsX1_readWork (wsV RX1 59 RX1 yX1_sign wsX1_sign) := goodIn_app (goodIn_of _ (by decide +kernel)) ggX1_readWork_X1_sign
set_option maxRecDepth 20000 in
theorem ggX1_readWork_X3_begin : GoodIn wsX1_readWork wsX3_begin := goodIn_r _ [21, 22, 23, 24, 25, 26, 27, 15, 28, 72, 73, 74, 75, 76] (by decide +kernel) (by decide +kernel)
set_option maxRecDepth 20000 in
theorem gX1_readWork_X3_begin : GoodIn wsX1_readWork (wsV RX1 63 RX3 yX3_begin wsX3_begin) := goodIn_app (goodIn_of _ (by decide +kernel)) ggX1_readWork_X3_begin
set_option maxRecDepth 20000 in
theorem ggX1_readWork_X1_readKinds : GoodIn wsX1_readWork wsX1_readKinds := goodIn_r _ [32, 2, 33, 34, 35, 6, 36, 1, 12, 8, 9, 10, 11, 13, 37, 38, 39, 40, 41, 42, 43, 44, 3, 4, 5, 7, 14, 15, 16, 45, 46, 47, 48, 49, 50, 51, 27, 28, 68, 69, 70, 71, 72, 73, 74, 75, 76] (by decide +kernel) (by decide +kernel)
set_option maxRecDepth 20000 in
theorem gX1_readWork_X1_readKinds : GoodIn wsX1_readWork (wsV RX1 67 RX1 yX1_readKinds wsX1_readKinds) := goodIn_app (goodIn_of _ (by decide +kernel)) ggX1_readWork_X1_readKinds
set_option maxRecDepth 20000 in
theorem ggX1_readWork_X1_readOther : GoodIn wsX1_readWork wsX1_readOther := goodIn_r _ [55, 2, 3, 4, 5, 6, 7, 1, 8, 9, 10, 11, 12, 13, 14, 15, 16, 68, 69, 70, 71, 72, 73, 74, 75, 76] (by decide +kernel) (by decide +kernel)
set_option maxRecDepth 20000 in
theorem gX1_readWork_X1_readOther : GoodIn wsX1_readWork (wsV RX1 70 RX1 yX1_readOther wsX1_readOther) := goodIn_app (goodIn_of _ (by decide +kernel)) ggX1_readWork_X1_readOther
set_option maxRecDepth 20000 in
theorem ggX1_readWork_X1_readSign : GoodIn wsX1_readWork wsX1_readSign := goodIn_r _ [59, 1, 8, 9, 10, 6, 11, 12, 13, 68, 69, 70, 71] (by decide +kernel) (by decide +kernel)
set_option maxRecDepth 20000 in
theorem gX1_readWork_X1_readSign : GoodIn wsX1_readWork (wsV RX1 51 RX1 yX1_readSign wsX1_readSign) := goodIn_app (goodIn_of _ (by decide +kernel)) ggX1_readWork_X1_readSign
set_option maxRecDepth 20000 in
theorem ggX1_readWork_X1_readNumber : GoodIn wsX1_readWork wsX1_readNumber := goodIn_r _ [40, 41, 42, 43, 44, 3, 4, 5, 6, 7, 1, 8, 9, 10, 11, 12, 13, 14, 15, 16, 68, 69, 70, 71] (by decide +kernel) (by decide +kernel)
set_option maxRecDepth 20000 in
theorem gX1_readWork_X1_readNumber : GoodIn wsX1_readWork (wsV RX1 73 RX1 yX1_readNumber wsX1_readNumber) := goodIn_app (goodIn_of _ (by decide +kernel)) ggX1_readWork_X1_readNumber
set_option maxRecDepth 20000 in
theorem ggX1_readWork_X1_readDrops : GoodIn wsX1_readWork wsX1_readDrops := goodIn_r _ [63, 2, 68, 69, 70, 71, 72, 73, 74, 75, 76] (by decide +kernel) (by decide +kernel)
set_option maxRecDepth 20000 in
theorem gX1_readWork_X1_readDrops : GoodIn wsX1_readWork (wsV RX1 76 RX1 yX1_readDrops wsX1_readDrops) := goodIn_app (goodIn_of _ (by decide +kernel)) ggX1_readWork_X1_readDrops
set_option maxRecDepth 20000 in
theorem ggX1_readWork_X1_readTarget : GoodIn wsX1_readWork wsX1_readTarget := goodIn_r _ [67, 2, 3, 4, 5, 6, 7, 1, 8, 9, 10, 11, 12, 13, 14, 15, 16, 68, 69, 70, 71, 72, 73, 74, 75, 76] (by decide +kernel) (by decide +kernel)
set_option maxRecDepth 20000 in
theorem gX1_readWork_X1_readTarget : GoodIn wsX1_readWork (wsV RX1 79 RX1 yX1_readTarget wsX1_readTarget) := goodIn_app (goodIn_of _ (by decide +kernel)) ggX1_readWork_X1_readTarget
theorem dX1_readWork_0 : decode cX1_readWork 0 = .ok (.aload_n 0, 1) := by decide +kernel
theorem dX1_readWork_1 : decode cX1_readWork 1 = .ok (.iconst 0, 1) := by decide +kernel
theorem dX1_readWork_2 : decode cX1_readWork 2 = .ok (.bipush 7, 2) := by decide +kernel
theorem dX1_readWork_4 : decode cX1_readWork 4 = .ok (.invokevirtual 55, 3) := by decide +kernel
theorem dX1_readWork_7 : decode cX1_readWork 7 = .ok (.istore_n 1, 1) := by decide +kernel
theorem dX1_readWork_8 : decode cX1_readWork 8 = .ok (.aload_n 0, 1) := by decide +kernel
theorem dX1_readWork_9 : decode cX1_readWork 9 = .ok (.invokevirtual 59, 3) := by decide +kernel
theorem dX1_readWork_12 : decode cX1_readWork 12 = .ok (.istore_n 2, 1) := by decide +kernel
theorem dX1_readWork_13 : decode cX1_readWork 13 = .ok (.iload_n 2, 1) := by decide +kernel
theorem dX1_readWork_14 : decode cX1_readWork 14 = .ok (.bipush 43, 2) := by decide +kernel
theorem dX1_readWork_16 : decode cX1_readWork 16 = .ok (.if_icmp .eq 15, 3) := by decide +kernel
theorem dX1_readWork_19 : decode cX1_readWork 19 = .ok (.iload_n 2, 1) := by decide +kernel
theorem dX1_readWork_20 : decode cX1_readWork 20 = .ok (.bipush 33, 2) := by decide +kernel
theorem dX1_readWork_22 : decode cX1_readWork 22 = .ok (.if_icmp .eq 9, 3) := by decide +kernel
theorem dX1_readWork_25 : decode cX1_readWork 25 = .ok (.iload_n 2, 1) := by decide +kernel
theorem dX1_readWork_26 : decode cX1_readWork 26 = .ok (.bipush 62, 2) := by decide +kernel
theorem dX1_readWork_28 : decode cX1_readWork 28 = .ok (.if_icmp .ne 7, 3) := by decide +kernel
theorem dX1_readWork_31 : decode cX1_readWork 31 = .ok (.iconst 1, 1) := by decide +kernel
theorem dX1_readWork_32 : decode cX1_readWork 32 = .ok (.goto 4, 3) := by decide +kernel
theorem dX1_readWork_35 : decode cX1_readWork 35 = .ok (.iconst 0, 1) := by decide +kernel
theorem dX1_readWork_36 : decode cX1_readWork 36 = .ok (.istore_n 3, 1) := by decide +kernel
theorem dX1_readWork_37 : decode cX1_readWork 37 = .ok (.iload_n 2, 1) := by decide +kernel
theorem dX1_readWork_38 : decode cX1_readWork 38 = .ok (.bipush 100, 2) := by decide +kernel
theorem dX1_readWork_40 : decode cX1_readWork 40 = .ok (.if_icmp .eq 15, 3) := by decide +kernel
theorem dX1_readWork_43 : decode cX1_readWork 43 = .ok (.iload_n 2, 1) := by decide +kernel
theorem dX1_readWork_44 : decode cX1_readWork 44 = .ok (.bipush 112, 2) := by decide +kernel
theorem dX1_readWork_46 : decode cX1_readWork 46 = .ok (.if_icmp .eq 9, 3) := by decide +kernel
theorem dX1_readWork_49 : decode cX1_readWork 49 = .ok (.iload_n 2, 1) := by decide +kernel
theorem dX1_readWork_50 : decode cX1_readWork 50 = .ok (.bipush 114, 2) := by decide +kernel
theorem dX1_readWork_52 : decode cX1_readWork 52 = .ok (.if_icmp .ne 7, 3) := by decide +kernel
theorem dX1_readWork_55 : decode cX1_readWork 55 = .ok (.iconst 1, 1) := by decide +kernel
theorem dX1_readWork_56 : decode cX1_readWork 56 = .ok (.goto 4, 3) := by decide +kernel
theorem dX1_readWork_59 : decode cX1_readWork 59 = .ok (.iconst 0, 1) := by decide +kernel
theorem dX1_readWork_60 : decode cX1_readWork 60 = .ok (.istore 4, 2) := by decide +kernel
theorem dX1_readWork_62 : decode cX1_readWork 62 = .ok (.iload_n 1, 1) := by decide +kernel
theorem dX1_readWork_63 : decode cX1_readWork 63 = .ok (.ifCond .lt 10, 3) := by decide +kernel
theorem dX1_readWork_66 : decode cX1_readWork 66 = .ok (.iload_n 3, 1) := by decide +kernel
theorem dX1_readWork_67 : decode cX1_readWork 67 = .ok (.ifCond .ne 13, 3) := by decide +kernel
theorem dX1_readWork_70 : decode cX1_readWork 70 = .ok (.goto 8, 3) := by decide +kernel
theorem dX1_readWork_73 : decode cX1_readWork 73 = .ok (.iload 4, 2) := by decide +kernel
theorem dX1_readWork_75 : decode cX1_readWork 75 = .ok (.ifCond .ne 5, 3) := by decide +kernel
theorem dX1_readWork_78 : decode cX1_readWork 78 = .ok (.iconst 0, 1) := by decide +kernel
theorem dX1_readWork_79 : decode cX1_readWork 79 = .ok (.ireturn, 1) := by decide +kernel
theorem dX1_readWork_80 : decode cX1_readWork 80 = .ok (.aload_n 0, 1) := by decide +kernel
theorem dX1_readWork_81 : decode cX1_readWork 81 = .ok (.dup, 1) := by decide +kernel
theorem dX1_readWork_82 : decode cX1_readWork 82 = .ok (.getfield 19, 3) := by decide +kernel
theorem dX1_readWork_85 : decode cX1_readWork 85 = .ok (.iconst 1, 1) := by decide +kernel
theorem dX1_readWork_86 : decode cX1_readWork 86 = .ok (.iadd, 1) := by decide +kernel
theorem dX1_readWork_87 : decode cX1_readWork 87 = .ok (.putfield 19, 3) := by decide +kernel
theorem dX1_readWork_90 : decode cX1_readWork 90 = .ok (.aload_n 0, 1) := by decide +kernel
theorem dX1_readWork_91 : decode cX1_readWork 91 = .ok (.getfield 25, 3) := by decide +kernel
theorem dX1_readWork_94 : decode cX1_readWork 94 = .ok (.iload_n 2, 1) := by decide +kernel
theorem dX1_readWork_95 : decode cX1_readWork 95 = .ok (.iload_n 1, 1) := by decide +kernel
theorem dX1_readWork_96 : decode cX1_readWork 96 = .ok (.invokevirtual 63, 3) := by decide +kernel
theorem dX1_readWork_99 : decode cX1_readWork 99 = .ok (.iload_n 2, 1) := by decide +kernel
theorem dX1_readWork_100 : decode cX1_readWork 100 = .ok (.lookupswitch 127 #[(43, 44), (62, 49), (100, 82), (112, 120)], 44) := by decide +kernel
theorem dX1_readWork_144 : decode cX1_readWork 144 = .ok (.aload_n 0, 1) := by decide +kernel
theorem dX1_readWork_145 : decode cX1_readWork 145 = .ok (.invokevirtual 67, 3) := by decide +kernel
theorem dX1_readWork_148 : decode cX1_readWork 148 = .ok (.ireturn, 1) := by decide +kernel
theorem dX1_readWork_149 : decode cX1_readWork 149 = .ok (.aload_n 0, 1) := by decide +kernel
theorem dX1_readWork_150 : decode cX1_readWork 150 = .ok (.invokevirtual 70, 3) := by decide +kernel
theorem dX1_readWork_153 : decode cX1_readWork 153 = .ok (.ifCond .eq 27, 3) := by decide +kernel
theorem dX1_readWork_156 : decode cX1_readWork 156 = .ok (.aload_n 0, 1) := by decide +kernel
theorem dX1_readWork_157 : decode cX1_readWork 157 = .ok (.bipush 58, 2) := by decide +kernel
theorem dX1_readWork_159 : decode cX1_readWork 159 = .ok (.invokevirtual 51, 3) := by decide +kernel
theorem dX1_readWork_162 : decode cX1_readWork 162 = .ok (.ifCond .eq 18, 3) := by decide +kernel
theorem dX1_readWork_165 : decode cX1_readWork 165 = .ok (.aload_n 0, 1) := by decide +kernel
theorem dX1_readWork_166 : decode cX1_readWork 166 = .ok (.aload_n 0, 1) := by decide +kernel
theorem dX1_readWork_167 : decode cX1_readWork 167 = .ok (.invokevirtual 73, 3) := by decide +kernel
theorem dX1_readWork_170 : decode cX1_readWork 170 = .ok (.invokevirtual 76, 3) := by decide +kernel
theorem dX1_readWork_173 : decode cX1_readWork 173 = .ok (.ifCond .eq 7, 3) := by decide +kernel
theorem dX1_readWork_176 : decode cX1_readWork 176 = .ok (.iconst 1, 1) := by decide +kernel
theorem dX1_readWork_177 : decode cX1_readWork 177 = .ok (.goto 4, 3) := by decide +kernel
theorem dX1_readWork_180 : decode cX1_readWork 180 = .ok (.iconst 0, 1) := by decide +kernel
theorem dX1_readWork_181 : decode cX1_readWork 181 = .ok (.ireturn, 1) := by decide +kernel
theorem dX1_readWork_182 : decode cX1_readWork 182 = .ok (.aload_n 0, 1) := by decide +kernel
theorem dX1_readWork_183 : decode cX1_readWork 183 = .ok (.bipush 8, 2) := by decide +kernel
theorem dX1_readWork_185 : decode cX1_readWork 185 = .ok (.invokevirtual 79, 3) := by decide +kernel
theorem dX1_readWork_188 : decode cX1_readWork 188 = .ok (.ifCond .eq 30, 3) := by decide +kernel
theorem dX1_readWork_191 : decode cX1_readWork 191 = .ok (.aload_n 0, 1) := by decide +kernel
theorem dX1_readWork_192 : decode cX1_readWork 192 = .ok (.bipush 58, 2) := by decide +kernel
theorem dX1_readWork_194 : decode cX1_readWork 194 = .ok (.invokevirtual 51, 3) := by decide +kernel
theorem dX1_readWork_197 : decode cX1_readWork 197 = .ok (.ifCond .eq 21, 3) := by decide +kernel
theorem dX1_readWork_200 : decode cX1_readWork 200 = .ok (.aload_n 0, 1) := by decide +kernel
theorem dX1_readWork_201 : decode cX1_readWork 201 = .ok (.aload_n 0, 1) := by decide +kernel
theorem dX1_readWork_202 : decode cX1_readWork 202 = .ok (.iconst 1, 1) := by decide +kernel
theorem dX1_readWork_203 : decode cX1_readWork 203 = .ok (.bipush 9, 2) := by decide +kernel
theorem dX1_readWork_205 : decode cX1_readWork 205 = .ok (.invokevirtual 55, 3) := by decide +kernel
theorem dX1_readWork_208 : decode cX1_readWork 208 = .ok (.invokevirtual 76, 3) := by decide +kernel
theorem dX1_readWork_211 : decode cX1_readWork 211 = .ok (.ifCond .eq 7, 3) := by decide +kernel
theorem dX1_readWork_214 : decode cX1_readWork 214 = .ok (.iconst 1, 1) := by decide +kernel
theorem dX1_readWork_215 : decode cX1_readWork 215 = .ok (.goto 4, 3) := by decide +kernel
theorem dX1_readWork_218 : decode cX1_readWork 218 = .ok (.iconst 0, 1) := by decide +kernel
theorem dX1_readWork_219 : decode cX1_readWork 219 = .ok (.ireturn, 1) := by decide +kernel
theorem dX1_readWork_220 : decode cX1_readWork 220 = .ok (.aload_n 0, 1) := by decide +kernel
theorem dX1_readWork_221 : decode cX1_readWork 221 = .ok (.bipush 6, 2) := by decide +kernel
theorem dX1_readWork_223 : decode cX1_readWork 223 = .ok (.invokevirtual 79, 3) := by decide +kernel
theorem dX1_readWork_226 : decode cX1_readWork 226 = .ok (.ireturn, 1) := by decide +kernel
theorem dX1_readWork_227 : decode cX1_readWork 227 = .ok (.iconst 1, 1) := by decide +kernel
theorem dX1_readWork_228 : decode cX1_readWork 228 = .ok (.ireturn, 1) := by decide +kernel
set_option maxRecDepth 20000 in
theorem ggX1_readTarget_X1_readDigit : GoodIn wsX1_readTarget wsX1_readDigit := goodIn_r _ [6, 7, 8, 9, 10, 5, 11, 12, 13, 14, 15, 16, 17, 18, 19, 20] (by decide +kernel) (by decide +kernel)
set_option maxRecDepth 20000 in
theorem gX1_readTarget_X1_readDigit : GoodIn wsX1_readTarget (wsV RX1 55 RX1 yX1_readDigit wsX1_readDigit) := goodIn_app (goodIn_of _ (by decide +kernel)) ggX1_readTarget_X1_readDigit
theorem dX1_readTarget_0 : decode cX1_readTarget 0 = .ok (.aload_n 0, 1) := by decide +kernel
theorem dX1_readTarget_1 : decode cX1_readTarget 1 = .ok (.getfield 25, 3) := by decide +kernel
theorem dX1_readTarget_4 : decode cX1_readTarget 4 = .ok (.aload_n 0, 1) := by decide +kernel
theorem dX1_readTarget_5 : decode cX1_readTarget 5 = .ok (.iconst 0, 1) := by decide +kernel
theorem dX1_readTarget_6 : decode cX1_readTarget 6 = .ok (.iload_n 1, 1) := by decide +kernel
theorem dX1_readTarget_7 : decode cX1_readTarget 7 = .ok (.iconst 1, 1) := by decide +kernel
theorem dX1_readTarget_8 : decode cX1_readTarget 8 = .ok (.isub, 1) := by decide +kernel
theorem dX1_readTarget_9 : decode cX1_readTarget 9 = .ok (.invokevirtual 55, 3) := by decide +kernel
theorem dX1_readTarget_12 : decode cX1_readTarget 12 = .ok (.putfield 82, 3) := by decide +kernel
theorem dX1_readTarget_15 : decode cX1_readTarget 15 = .ok (.aload_n 0, 1) := by decide +kernel
theorem dX1_readTarget_16 : decode cX1_readTarget 16 = .ok (.getfield 25, 3) := by decide +kernel
theorem dX1_readTarget_19 : decode cX1_readTarget 19 = .ok (.getfield 82, 3) := by decide +kernel
theorem dX1_readTarget_22 : decode cX1_readTarget 22 = .ok (.ifCond .lt 7, 3) := by decide +kernel
theorem dX1_readTarget_25 : decode cX1_readTarget 25 = .ok (.iconst 1, 1) := by decide +kernel
theorem dX1_readTarget_26 : decode cX1_readTarget 26 = .ok (.goto 4, 3) := by decide +kernel
theorem dX1_readTarget_29 : decode cX1_readTarget 29 = .ok (.iconst 0, 1) := by decide +kernel
theorem dX1_readTarget_30 : decode cX1_readTarget 30 = .ok (.ireturn, 1) := by decide +kernel
set_option maxRecDepth 20000 in
theorem ggX1_readOther_X1_readDigit : GoodIn wsX1_readOther wsX1_readDigit := goodIn_r _ [6, 7, 8, 9, 10, 5, 11, 12, 13, 14, 15, 16, 17, 18, 19, 20] (by decide +kernel) (by decide +kernel)
set_option maxRecDepth 20000 in
theorem gX1_readOther_X1_readDigit : GoodIn wsX1_readOther (wsV RX1 55 RX1 yX1_readDigit wsX1_readDigit) := goodIn_app (goodIn_of _ (by decide +kernel)) ggX1_readOther_X1_readDigit
theorem dX1_readOther_0 : decode cX1_readOther 0 = .ok (.aload_n 0, 1) := by decide +kernel
theorem dX1_readOther_1 : decode cX1_readOther 1 = .ok (.getfield 25, 3) := by decide +kernel
theorem dX1_readOther_4 : decode cX1_readOther 4 = .ok (.aload_n 0, 1) := by decide +kernel
theorem dX1_readOther_5 : decode cX1_readOther 5 = .ok (.iconst 0, 1) := by decide +kernel
theorem dX1_readOther_6 : decode cX1_readOther 6 = .ok (.bipush 7, 2) := by decide +kernel
theorem dX1_readOther_8 : decode cX1_readOther 8 = .ok (.invokevirtual 55, 3) := by decide +kernel
theorem dX1_readOther_11 : decode cX1_readOther 11 = .ok (.putfield 85, 3) := by decide +kernel
theorem dX1_readOther_14 : decode cX1_readOther 14 = .ok (.aload_n 0, 1) := by decide +kernel
theorem dX1_readOther_15 : decode cX1_readOther 15 = .ok (.getfield 25, 3) := by decide +kernel
theorem dX1_readOther_18 : decode cX1_readOther 18 = .ok (.getfield 85, 3) := by decide +kernel
theorem dX1_readOther_21 : decode cX1_readOther 21 = .ok (.ifCond .lt 7, 3) := by decide +kernel
theorem dX1_readOther_24 : decode cX1_readOther 24 = .ok (.iconst 1, 1) := by decide +kernel
theorem dX1_readOther_25 : decode cX1_readOther 25 = .ok (.goto 4, 3) := by decide +kernel
theorem dX1_readOther_28 : decode cX1_readOther 28 = .ok (.iconst 0, 1) := by decide +kernel
theorem dX1_readOther_29 : decode cX1_readOther 29 = .ok (.ireturn, 1) := by decide +kernel
theorem dX1_readDrops_0 : decode cX1_readDrops 0 = .ok (.aload_n 0, 1) := by decide +kernel
theorem dX1_readDrops_1 : decode cX1_readDrops 1 = .ok (.getfield 25, 3) := by decide +kernel
theorem dX1_readDrops_4 : decode cX1_readDrops 4 = .ok (.iload_n 1, 1) := by decide +kernel
theorem dX1_readDrops_5 : decode cX1_readDrops 5 = .ok (.putfield 88, 3) := by decide +kernel
theorem dX1_readDrops_8 : decode cX1_readDrops 8 = .ok (.iload_n 1, 1) := by decide +kernel
theorem dX1_readDrops_9 : decode cX1_readDrops 9 = .ok (.ifCond .lt 7, 3) := by decide +kernel
theorem dX1_readDrops_12 : decode cX1_readDrops 12 = .ok (.iconst 1, 1) := by decide +kernel
theorem dX1_readDrops_13 : decode cX1_readDrops 13 = .ok (.goto 4, 3) := by decide +kernel
theorem dX1_readDrops_16 : decode cX1_readDrops 16 = .ok (.iconst 0, 1) := by decide +kernel
theorem dX1_readDrops_17 : decode cX1_readDrops 17 = .ok (.ireturn, 1) := by decide +kernel
set_option maxRecDepth 20000 in
theorem ggX1_readKinds_X1_isAtEndOfWork : GoodIn wsX1_readKinds wsX1_isAtEndOfWork := goodIn_r _ [6, 7, 8, 9, 10, 11, 5, 12, 13, 38, 39, 40, 41] (by decide +kernel) (by decide +kernel)
set_option maxRecDepth 20000 in
theorem gX1_readKinds_X1_isAtEndOfWork : GoodIn wsX1_readKinds (wsV RX1 91 RX1 yX1_isAtEndOfWork wsX1_isAtEndOfWork) := goodIn_app (goodIn_of _ (by decide +kernel)) ggX1_readKinds_X1_isAtEndOfWork
set_option maxRecDepth 20000 in
theorem ggX1_readKinds_X1_readNumber : GoodIn wsX1_readKinds wsX1_readNumber := goodIn_r _ [17, 18, 19, 20, 21, 22, 23, 24, 5, 25, 7, 9, 10, 11, 12, 8, 13, 26, 27, 28, 38, 39, 40, 41] (by decide +kernel) (by decide +kernel)
set_option maxRecDepth 20000 in
theorem gX1_readKinds_X1_readNumber : GoodIn wsX1_readKinds (wsV RX1 73 RX1 yX1_readNumber wsX1_readNumber) := goodIn_app (goodIn_of _ (by decide +kernel)) ggX1_readKinds_X1_readNumber
set_option maxRecDepth 20000 in
theorem ggX1_readKinds_X1_readKind : GoodIn wsX1_readKinds wsX1_readKind := goodIn_r _ [32, 7, 9, 10, 11, 5, 12, 8, 13, 33, 34, 35, 38, 39, 40, 41] (by decide +kernel) (by decide +kernel)
set_option maxRecDepth 20000 in
theorem gX1_readKinds_X1_readKind : GoodIn wsX1_readKinds (wsV RX1 94 RX1 yX1_readKind wsX1_readKind) := goodIn_app (goodIn_of _ (by decide +kernel)) ggX1_readKinds_X1_readKind
set_option maxRecDepth 20000 in
theorem ggX1_readKinds_X4_write : GoodIn wsX1_readKinds wsX4_write := goodIn_r _ [37] (by decide +kernel) (by decide +kernel)
set_option maxRecDepth 20000 in
theorem gX1_readKinds_X4_write_n37 : GoodIn wsX1_readKinds (wsX4_write) := ggX1_readKinds_X4_write
theorem dX1_readKinds_0 : decode cX1_readKinds 0 = .ok (.iconst (-1), 1) := by decide +kernel
theorem dX1_readKinds_1 : decode cX1_readKinds 1 = .ok (.istore_n 1, 1) := by decide +kernel
theorem dX1_readKinds_2 : decode cX1_readKinds 2 = .ok (.iconst 0, 1) := by decide +kernel
theorem dX1_readKinds_3 : decode cX1_readKinds 3 = .ok (.istore_n 2, 1) := by decide +kernel
theorem dX1_readKinds_4 : decode cX1_readKinds 4 = .ok (.iload_n 2, 1) := by decide +kernel
theorem dX1_readKinds_5 : decode cX1_readKinds 5 = .ok (.iconst 4, 1) := by decide +kernel
theorem dX1_readKinds_6 : decode cX1_readKinds 6 = .ok (.if_icmp .ge 62, 3) := by decide +kernel
theorem dX1_readKinds_9 : decode cX1_readKinds 9 = .ok (.iload_n 1, 1) := by decide +kernel
theorem dX1_readKinds_10 : decode cX1_readKinds 10 = .ok (.iconst 3, 1) := by decide +kernel
theorem dX1_readKinds_11 : decode cX1_readKinds 11 = .ok (.if_icmp .ge 57, 3) := by decide +kernel
theorem dX1_readKinds_14 : decode cX1_readKinds 14 = .ok (.iload_n 2, 1) := by decide +kernel
theorem dX1_readKinds_15 : decode cX1_readKinds 15 = .ok (.ifCond .eq 10, 3) := by decide +kernel
theorem dX1_readKinds_18 : decode cX1_readKinds 18 = .ok (.aload_n 0, 1) := by decide +kernel
theorem dX1_readKinds_19 : decode cX1_readKinds 19 = .ok (.invokevirtual 91, 3) := by decide +kernel
theorem dX1_readKinds_22 : decode cX1_readKinds 22 = .ok (.ifCond .ne 46, 3) := by decide +kernel
theorem dX1_readKinds_25 : decode cX1_readKinds 25 = .ok (.aload_n 0, 1) := by decide +kernel
theorem dX1_readKinds_26 : decode cX1_readKinds 26 = .ok (.invokevirtual 73, 3) := by decide +kernel
theorem dX1_readKinds_29 : decode cX1_readKinds 29 = .ok (.istore_n 3, 1) := by decide +kernel
theorem dX1_readKinds_30 : decode cX1_readKinds 30 = .ok (.iload_n 3, 1) := by decide +kernel
theorem dX1_readKinds_31 : decode cX1_readKinds 31 = .ok (.ifCond .ge 5, 3) := by decide +kernel
theorem dX1_readKinds_34 : decode cX1_readKinds 34 = .ok (.iconst 0, 1) := by decide +kernel
theorem dX1_readKinds_35 : decode cX1_readKinds 35 = .ok (.ireturn, 1) := by decide +kernel
theorem dX1_readKinds_36 : decode cX1_readKinds 36 = .ok (.aload_n 0, 1) := by decide +kernel
theorem dX1_readKinds_37 : decode cX1_readKinds 37 = .ok (.iload_n 1, 1) := by decide +kernel
theorem dX1_readKinds_38 : decode cX1_readKinds 38 = .ok (.iconst 1, 1) := by decide +kernel
theorem dX1_readKinds_39 : decode cX1_readKinds 39 = .ok (.iadd, 1) := by decide +kernel
theorem dX1_readKinds_40 : decode cX1_readKinds 40 = .ok (.invokevirtual 94, 3) := by decide +kernel
theorem dX1_readKinds_43 : decode cX1_readKinds 43 = .ok (.istore_n 1, 1) := by decide +kernel
theorem dX1_readKinds_44 : decode cX1_readKinds 44 = .ok (.iload_n 1, 1) := by decide +kernel
theorem dX1_readKinds_45 : decode cX1_readKinds 45 = .ok (.ifCond .ge 5, 3) := by decide +kernel
theorem dX1_readKinds_48 : decode cX1_readKinds 48 = .ok (.iconst 0, 1) := by decide +kernel
theorem dX1_readKinds_49 : decode cX1_readKinds 49 = .ok (.ireturn, 1) := by decide +kernel
theorem dX1_readKinds_50 : decode cX1_readKinds 50 = .ok (.aload_n 0, 1) := by decide +kernel
theorem dX1_readKinds_51 : decode cX1_readKinds 51 = .ok (.getfield 25, 3) := by decide +kernel
theorem dX1_readKinds_54 : decode cX1_readKinds 54 = .ok (.getfield 98, 3) := by decide +kernel
theorem dX1_readKinds_57 : decode cX1_readKinds 57 = .ok (.iload_n 1, 1) := by decide +kernel
theorem dX1_readKinds_58 : decode cX1_readKinds 58 = .ok (.iload_n 3, 1) := by decide +kernel
theorem dX1_readKinds_59 : decode cX1_readKinds 59 = .ok (.invokestatic 37, 3) := by decide +kernel
theorem dX1_readKinds_62 : decode cX1_readKinds 62 = .ok (.iinc 2 1, 3) := by decide +kernel
theorem dX1_readKinds_65 : decode cX1_readKinds 65 = .ok (.goto (-61), 3) := by decide +kernel
theorem dX1_readKinds_68 : decode cX1_readKinds 68 = .ok (.iconst 1, 1) := by decide +kernel
theorem dX1_readKinds_69 : decode cX1_readKinds 69 = .ok (.ireturn, 1) := by decide +kernel
set_option maxRecDepth 20000 in
theorem ggX1_isAtEndOfWork_X1_sign : GoodIn wsX1_isAtEndOfWork wsX1_sign := goodIn_r _ [7, 1, 2, 8, 9, 10, 11, 12] (by decide +kernel) (by decide +kernel)
set_option maxRecDepth 20000 in
theorem gX1_isAtEndOfWork_X1_sign : GoodIn wsX1_isAtEndOfWork (wsV RX1 59 RX1 yX1_sign wsX1_sign) := goodIn_app (goodIn_of _ (by decide +kernel)) ggX1_isAtEndOfWork_X1_sign
theorem dX1_isAtEndOfWork_0 : decode cX1_isAtEndOfWork 0 = .ok (.aload_n 0, 1) := by decide +kernel
theorem dX1_isAtEndOfWork_1 : decode cX1_isAtEndOfWork 1 = .ok (.getfield 19, 3) := by decide +kernel
theorem dX1_isAtEndOfWork_4 : decode cX1_isAtEndOfWork 4 = .ok (.aload_n 0, 1) := by decide +kernel
theorem dX1_isAtEndOfWork_5 : decode cX1_isAtEndOfWork 5 = .ok (.getfield 15, 3) := by decide +kernel
theorem dX1_isAtEndOfWork_8 : decode cX1_isAtEndOfWork 8 = .ok (.if_icmp .ge 12, 3) := by decide +kernel
theorem dX1_isAtEndOfWork_11 : decode cX1_isAtEndOfWork 11 = .ok (.aload_n 0, 1) := by decide +kernel
theorem dX1_isAtEndOfWork_12 : decode cX1_isAtEndOfWork 12 = .ok (.invokevirtual 59, 3) := by decide +kernel
theorem dX1_isAtEndOfWork_15 : decode cX1_isAtEndOfWork 15 = .ok (.bipush 59, 2) := by decide +kernel
theorem dX1_isAtEndOfWork_17 : decode cX1_isAtEndOfWork 17 = .ok (.if_icmp .ne 7, 3) := by decide +kernel
theorem dX1_isAtEndOfWork_20 : decode cX1_isAtEndOfWork 20 = .ok (.iconst 1, 1) := by decide +kernel
theorem dX1_isAtEndOfWork_21 : decode cX1_isAtEndOfWork 21 = .ok (.goto 4, 3) := by decide +kernel
theorem dX1_isAtEndOfWork_24 : decode cX1_isAtEndOfWork 24 = .ok (.iconst 0, 1) := by decide +kernel
theorem dX1_isAtEndOfWork_25 : decode cX1_isAtEndOfWork 25 = .ok (.ireturn, 1) := by decide +kernel
theorem dX1_sign_0 : decode cX1_sign 0 = .ok (.aload_n 0, 1) := by decide +kernel
theorem dX1_sign_1 : decode cX1_sign 1 = .ok (.getfield 19, 3) := by decide +kernel
theorem dX1_sign_4 : decode cX1_sign 4 = .ok (.ifCond .lt 26, 3) := by decide +kernel
theorem dX1_sign_7 : decode cX1_sign 7 = .ok (.aload_n 0, 1) := by decide +kernel
theorem dX1_sign_8 : decode cX1_sign 8 = .ok (.getfield 19, 3) := by decide +kernel
theorem dX1_sign_11 : decode cX1_sign 11 = .ok (.aload_n 0, 1) := by decide +kernel
theorem dX1_sign_12 : decode cX1_sign 12 = .ok (.getfield 15, 3) := by decide +kernel
theorem dX1_sign_15 : decode cX1_sign 15 = .ok (.if_icmp .ge 15, 3) := by decide +kernel
theorem dX1_sign_18 : decode cX1_sign 18 = .ok (.aload_n 0, 1) := by decide +kernel
theorem dX1_sign_19 : decode cX1_sign 19 = .ok (.getfield 19, 3) := by decide +kernel
theorem dX1_sign_22 : decode cX1_sign 22 = .ok (.aload_n 0, 1) := by decide +kernel
theorem dX1_sign_23 : decode cX1_sign 23 = .ok (.getfield 9, 3) := by decide +kernel
theorem dX1_sign_26 : decode cX1_sign 26 = .ok (.arraylength, 1) := by decide +kernel
theorem dX1_sign_27 : decode cX1_sign 27 = .ok (.if_icmp .lt 5, 3) := by decide +kernel
theorem dX1_sign_30 : decode cX1_sign 30 = .ok (.iconst 0, 1) := by decide +kernel
theorem dX1_sign_31 : decode cX1_sign 31 = .ok (.ireturn, 1) := by decide +kernel
theorem dX1_sign_32 : decode cX1_sign 32 = .ok (.aload_n 0, 1) := by decide +kernel
theorem dX1_sign_33 : decode cX1_sign 33 = .ok (.getfield 9, 3) := by decide +kernel
theorem dX1_sign_36 : decode cX1_sign 36 = .ok (.aload_n 0, 1) := by decide +kernel
theorem dX1_sign_37 : decode cX1_sign 37 = .ok (.getfield 19, 3) := by decide +kernel
theorem dX1_sign_40 : decode cX1_sign 40 = .ok (.iaload, 1) := by decide +kernel
theorem dX1_sign_41 : decode cX1_sign 41 = .ok (.ireturn, 1) := by decide +kernel
set_option maxRecDepth 20000 in
theorem ggX1_readSign_X1_sign : GoodIn wsX1_readSign wsX1_sign := goodIn_r _ [6, 1, 7, 8, 9, 10, 11, 12] (by decide +kernel) (by decide +kernel)
set_option maxRecDepth 20000 in
theorem gX1_readSign_X1_sign : GoodIn wsX1_readSign (wsV RX1 59 RX1 yX1_sign wsX1_sign) := goodIn_app (goodIn_of _ (by decide +kernel)) ggX1_readSign_X1_sign
theorem dX1_readSign_0 : decode cX1_readSign 0 = .ok (.aload_n 0, 1) := by decide +kernel
theorem dX1_readSign_1 : decode cX1_readSign 1 = .ok (.invokevirtual 59, 3) := by decide +kernel
theorem dX1_readSign_4 : decode cX1_readSign 4 = .ok (.iload_n 1, 1) := by decide +kernel
theorem dX1_readSign_5 : decode cX1_readSign 5 = .ok (.if_icmp .eq 5, 3) := by decide +kernel
theorem dX1_readSign_8 : decode cX1_readSign 8 = .ok (.iconst 0, 1) := by decide +kernel
theorem dX1_readSign_9 : decode cX1_readSign 9 = .ok (.ireturn, 1) := by decide +kernel
theorem dX1_readSign_10 : decode cX1_readSign 10 = .ok (.aload_n 0, 1) := by decide +kernel
theorem dX1_readSign_11 : decode cX1_readSign 11 = .ok (.dup, 1) := by decide +kernel
theorem dX1_readSign_12 : decode cX1_readSign 12 = .ok (.getfield 19, 3) := by decide +kernel
theorem dX1_readSign_15 : decode cX1_readSign 15 = .ok (.iconst 1, 1) := by decide +kernel
theorem dX1_readSign_16 : decode cX1_readSign 16 = .ok (.iadd, 1) := by decide +kernel
theorem dX1_readSign_17 : decode cX1_readSign 17 = .ok (.putfield 19, 3) := by decide +kernel
theorem dX1_readSign_20 : decode cX1_readSign 20 = .ok (.iconst 1, 1) := by decide +kernel
theorem dX1_readSign_21 : decode cX1_readSign 21 = .ok (.ireturn, 1) := by decide +kernel
set_option maxRecDepth 20000 in
theorem ggX1_readDigit_X1_sign : GoodIn wsX1_readDigit wsX1_sign := goodIn_r _ [6, 1, 7, 8, 12, 13, 14, 15] (by decide +kernel) (by decide +kernel)
set_option maxRecDepth 20000 in
theorem gX1_readDigit_X1_sign : GoodIn wsX1_readDigit (wsV RX1 59 RX1 yX1_sign wsX1_sign) := goodIn_app (goodIn_of _ (by decide +kernel)) ggX1_readDigit_X1_sign
set_option maxRecDepth 20000 in
theorem ggX1_readDigit_X4_isBetween : GoodIn wsX1_readDigit wsX4_isBetween := goodIn_r _ [11] (by decide +kernel) (by decide +kernel)
set_option maxRecDepth 20000 in
theorem gX1_readDigit_X4_isBetween_n41 : GoodIn wsX1_readDigit (wsX4_isBetween) := ggX1_readDigit_X4_isBetween
theorem dX1_readDigit_0 : decode cX1_readDigit 0 = .ok (.aload_n 0, 1) := by decide +kernel
theorem dX1_readDigit_1 : decode cX1_readDigit 1 = .ok (.invokevirtual 59, 3) := by decide +kernel
theorem dX1_readDigit_4 : decode cX1_readDigit 4 = .ok (.bipush 48, 2) := by decide +kernel
theorem dX1_readDigit_6 : decode cX1_readDigit 6 = .ok (.isub, 1) := by decide +kernel
theorem dX1_readDigit_7 : decode cX1_readDigit 7 = .ok (.istore_n 3, 1) := by decide +kernel
theorem dX1_readDigit_8 : decode cX1_readDigit 8 = .ok (.iload_n 3, 1) := by decide +kernel
theorem dX1_readDigit_9 : decode cX1_readDigit 9 = .ok (.iload_n 1, 1) := by decide +kernel
theorem dX1_readDigit_10 : decode cX1_readDigit 10 = .ok (.iload_n 2, 1) := by decide +kernel
theorem dX1_readDigit_11 : decode cX1_readDigit 11 = .ok (.invokestatic 41, 3) := by decide +kernel
theorem dX1_readDigit_14 : decode cX1_readDigit 14 = .ok (.ifCond .ne 5, 3) := by decide +kernel
theorem dX1_readDigit_17 : decode cX1_readDigit 17 = .ok (.iconst (-1), 1) := by decide +kernel
theorem dX1_readDigit_18 : decode cX1_readDigit 18 = .ok (.ireturn, 1) := by decide +kernel
theorem dX1_readDigit_19 : decode cX1_readDigit 19 = .ok (.aload_n 0, 1) := by decide +kernel
theorem dX1_readDigit_20 : decode cX1_readDigit 20 = .ok (.dup, 1) := by decide +kernel
theorem dX1_readDigit_21 : decode cX1_readDigit 21 = .ok (.getfield 19, 3) := by decide +kernel
theorem dX1_readDigit_24 : decode cX1_readDigit 24 = .ok (.iconst 1, 1) := by decide +kernel
theorem dX1_readDigit_25 : decode cX1_readDigit 25 = .ok (.iadd, 1) := by decide +kernel
theorem dX1_readDigit_26 : decode cX1_readDigit 26 = .ok (.putfield 19, 3) := by decide +kernel
theorem dX1_readDigit_29 : decode cX1_readDigit 29 = .ok (.iload_n 3, 1) := by decide +kernel
theorem dX1_readDigit_30 : decode cX1_readDigit 30 = .ok (.ireturn, 1) := by decide +kernel
set_option maxRecDepth 20000 in
theorem ggX1_readNumber_X1_readDigit : GoodIn wsX1_readNumber wsX1_readDigit := goodIn_r _ [9, 10, 11, 12, 13, 8, 14, 15, 16, 17, 18, 19, 20, 21, 22, 23] (by decide +kernel) (by decide +kernel)
set_option maxRecDepth 20000 in
theorem gX1_readNumber_X1_readDigit : GoodIn wsX1_readNumber (wsV RX1 55 RX1 yX1_readDigit wsX1_readDigit) := goodIn_app (goodIn_of _ (by decide +kernel)) ggX1_readNumber_X1_readDigit
set_option maxRecDepth 20000 in
theorem ggX1_readNumber_X1_sign : GoodIn wsX1_readNumber wsX1_sign := goodIn_r _ [14, 10, 15, 16, 20, 21, 22, 23] (by decide +kernel) (by decide +kernel)
set_option maxRecDepth 20000 in
theorem gX1_readNumber_X1_sign : GoodIn wsX1_readNumber (wsV RX1 59 RX1 yX1_sign wsX1_sign) := goodIn_app (goodIn_of _ (by decide +kernel)) ggX1_readNumber_X1_sign
set_option maxRecDepth 20000 in
theorem ggX1_readNumber_X4_isBetween : GoodIn wsX1_readNumber wsX4_isBetween := goodIn_r _ [19] (by decide +kernel) (by decide +kernel)
set_option maxRecDepth 20000 in
theorem gX1_readNumber_X4_isBetween_n41 : GoodIn wsX1_readNumber (wsX4_isBetween) := ggX1_readNumber_X4_isBetween
theorem dX1_readNumber_0 : decode cX1_readNumber 0 = .ok (.aload_n 0, 1) := by decide +kernel
theorem dX1_readNumber_1 : decode cX1_readNumber 1 = .ok (.iconst 1, 1) := by decide +kernel
theorem dX1_readNumber_2 : decode cX1_readNumber 2 = .ok (.bipush 9, 2) := by decide +kernel
theorem dX1_readNumber_4 : decode cX1_readNumber 4 = .ok (.invokevirtual 55, 3) := by decide +kernel
theorem dX1_readNumber_7 : decode cX1_readNumber 7 = .ok (.istore_n 1, 1) := by decide +kernel
theorem dX1_readNumber_8 : decode cX1_readNumber 8 = .ok (.iload_n 1, 1) := by decide +kernel
theorem dX1_readNumber_9 : decode cX1_readNumber 9 = .ok (.ifCond .lt 17, 3) := by decide +kernel
theorem dX1_readNumber_12 : decode cX1_readNumber 12 = .ok (.aload_n 0, 1) := by decide +kernel
theorem dX1_readNumber_13 : decode cX1_readNumber 13 = .ok (.invokevirtual 59, 3) := by decide +kernel
theorem dX1_readNumber_16 : decode cX1_readNumber 16 = .ok (.bipush 48, 2) := by decide +kernel
theorem dX1_readNumber_18 : decode cX1_readNumber 18 = .ok (.bipush 57, 2) := by decide +kernel
theorem dX1_readNumber_20 : decode cX1_readNumber 20 = .ok (.invokestatic 41, 3) := by decide +kernel
theorem dX1_readNumber_23 : decode cX1_readNumber 23 = .ok (.ifCond .ne 5, 3) := by decide +kernel
theorem dX1_readNumber_26 : decode cX1_readNumber 26 = .ok (.iload_n 1, 1) := by decide +kernel
theorem dX1_readNumber_27 : decode cX1_readNumber 27 = .ok (.ireturn, 1) := by decide +kernel
theorem dX1_readNumber_28 : decode cX1_readNumber 28 = .ok (.aload_n 0, 1) := by decide +kernel
theorem dX1_readNumber_29 : decode cX1_readNumber 29 = .ok (.iconst 0, 1) := by decide +kernel
theorem dX1_readNumber_30 : decode cX1_readNumber 30 = .ok (.bipush 9, 2) := by decide +kernel
theorem dX1_readNumber_32 : decode cX1_readNumber 32 = .ok (.bipush 81, 2) := by decide +kernel
theorem dX1_readNumber_34 : decode cX1_readNumber 34 = .ok (.bipush 10, 2) := by decide +kernel
theorem dX1_readNumber_36 : decode cX1_readNumber 36 = .ok (.iload_n 1, 1) := by decide +kernel
theorem dX1_readNumber_37 : decode cX1_readNumber 37 = .ok (.imul, 1) := by decide +kernel
theorem dX1_readNumber_38 : decode cX1_readNumber 38 = .ok (.isub, 1) := by decide +kernel
theorem dX1_readNumber_39 : decode cX1_readNumber 39 = .ok (.invokestatic 101, 3) := by decide +kernel
theorem dX1_readNumber_42 : decode cX1_readNumber 42 = .ok (.invokevirtual 55, 3) := by decide +kernel
theorem dX1_readNumber_45 : decode cX1_readNumber 45 = .ok (.istore_n 2, 1) := by decide +kernel
theorem dX1_readNumber_46 : decode cX1_readNumber 46 = .ok (.iload_n 2, 1) := by decide +kernel
theorem dX1_readNumber_47 : decode cX1_readNumber 47 = .ok (.ifCond .ge 7, 3) := by decide +kernel
theorem dX1_readNumber_50 : decode cX1_readNumber 50 = .ok (.iconst (-1), 1) := by decide +kernel
theorem dX1_readNumber_51 : decode cX1_readNumber 51 = .ok (.goto 9, 3) := by decide +kernel
theorem dX1_readNumber_54 : decode cX1_readNumber 54 = .ok (.bipush 10, 2) := by decide +kernel
theorem dX1_readNumber_56 : decode cX1_readNumber 56 = .ok (.iload_n 1, 1) := by decide +kernel
theorem dX1_readNumber_57 : decode cX1_readNumber 57 = .ok (.imul, 1) := by decide +kernel
theorem dX1_readNumber_58 : decode cX1_readNumber 58 = .ok (.iload_n 2, 1) := by decide +kernel
theorem dX1_readNumber_59 : decode cX1_readNumber 59 = .ok (.iadd, 1) := by decide +kernel
theorem dX1_readNumber_60 : decode cX1_readNumber 60 = .ok (.ireturn, 1) := by decide +kernel
set_option maxRecDepth 20000 in
theorem ggX1_readKind_X1_sign : GoodIn wsX1_readKind wsX1_sign := goodIn_r _ [6, 1, 7, 8, 12, 13, 14, 15] (by decide +kernel) (by decide +kernel)
set_option maxRecDepth 20000 in
theorem gX1_readKind_X1_sign : GoodIn wsX1_readKind (wsV RX1 59 RX1 yX1_sign wsX1_sign) := goodIn_app (goodIn_of _ (by decide +kernel)) ggX1_readKind_X1_sign
set_option maxRecDepth 20000 in
theorem ggX1_readKind_X1_kindOf : GoodIn wsX1_readKind wsX1_kindOf := goodIn_r _ [11] (by decide +kernel) (by decide +kernel)
set_option maxRecDepth 20000 in
theorem gX1_readKind_X1_kindOf : GoodIn wsX1_readKind (va_wsS RX1 106 yX1_kindOf wsX1_kindOf) := goodIn_app (goodIn_of _ (by decide +kernel)) ggX1_readKind_X1_kindOf
theorem dX1_readKind_0 : decode cX1_readKind 0 = .ok (.aload_n 0, 1) := by decide +kernel
theorem dX1_readKind_1 : decode cX1_readKind 1 = .ok (.invokevirtual 59, 3) := by decide +kernel
theorem dX1_readKind_4 : decode cX1_readKind 4 = .ok (.invokestatic 106, 3) := by decide +kernel
theorem dX1_readKind_7 : decode cX1_readKind 7 = .ok (.istore_n 2, 1) := by decide +kernel
theorem dX1_readKind_8 : decode cX1_readKind 8 = .ok (.iload_n 2, 1) := by decide +kernel
theorem dX1_readKind_9 : decode cX1_readKind 9 = .ok (.iload_n 1, 1) := by decide +kernel
theorem dX1_readKind_10 : decode cX1_readKind 10 = .ok (.if_icmp .ge 5, 3) := by decide +kernel
theorem dX1_readKind_13 : decode cX1_readKind 13 = .ok (.iconst (-1), 1) := by decide +kernel
theorem dX1_readKind_14 : decode cX1_readKind 14 = .ok (.ireturn, 1) := by decide +kernel
theorem dX1_readKind_15 : decode cX1_readKind 15 = .ok (.aload_n 0, 1) := by decide +kernel
theorem dX1_readKind_16 : decode cX1_readKind 16 = .ok (.dup, 1) := by decide +kernel
theorem dX1_readKind_17 : decode cX1_readKind 17 = .ok (.getfield 19, 3) := by decide +kernel
theorem dX1_readKind_20 : decode cX1_readKind 20 = .ok (.iconst 1, 1) := by decide +kernel
theorem dX1_readKind_21 : decode cX1_readKind 21 = .ok (.iadd, 1) := by decide +kernel
theorem dX1_readKind_22 : decode cX1_readKind 22 = .ok (.putfield 19, 3) := by decide +kernel
theorem dX1_readKind_25 : decode cX1_readKind 25 = .ok (.iload_n 2, 1) := by decide +kernel
theorem dX1_readKind_26 : decode cX1_readKind 26 = .ok (.ireturn, 1) := by decide +kernel
theorem dX1_kindOf_0 : decode cX1_kindOf 0 = .ok (.iload_n 0, 1) := by decide +kernel
theorem dX1_kindOf_1 : decode cX1_kindOf 1 = .ok (.lookupswitch 51 #[(98, 47), (114, 43), (116, 49), (121, 45)], 43) := by decide +kernel
theorem dX1_kindOf_44 : decode cX1_kindOf 44 = .ok (.iconst 0, 1) := by decide +kernel
theorem dX1_kindOf_45 : decode cX1_kindOf 45 = .ok (.ireturn, 1) := by decide +kernel
theorem dX1_kindOf_46 : decode cX1_kindOf 46 = .ok (.iconst 1, 1) := by decide +kernel
theorem dX1_kindOf_47 : decode cX1_kindOf 47 = .ok (.ireturn, 1) := by decide +kernel
theorem dX1_kindOf_48 : decode cX1_kindOf 48 = .ok (.iconst 2, 1) := by decide +kernel
theorem dX1_kindOf_49 : decode cX1_kindOf 49 = .ok (.ireturn, 1) := by decide +kernel
theorem dX1_kindOf_50 : decode cX1_kindOf 50 = .ok (.iconst 3, 1) := by decide +kernel
theorem dX1_kindOf_51 : decode cX1_kindOf 51 = .ok (.ireturn, 1) := by decide +kernel
theorem dX1_kindOf_52 : decode cX1_kindOf 52 = .ok (.iconst (-1), 1) := by decide +kernel
theorem dX1_kindOf_53 : decode cX1_kindOf 53 = .ok (.ireturn, 1) := by decide +kernel
set_option maxRecDepth 20000 in
theorem ggX2_init_X4_write : GoodIn wsX2_init wsX4_write := goodIn_r _ [19] (by decide +kernel) (by decide +kernel)
set_option maxRecDepth 20000 in
theorem gX2_init_X4_write_n15 : GoodIn wsX2_init (wsX4_write) := ggX2_init_X4_write
theorem dX2_init_0 : decode cX2_init 0 = .ok (.aload_n 0, 1) := by decide +kernel
theorem dX2_init_1 : decode cX2_init 1 = .ok (.invokespecial 3, 3) := by decide +kernel
theorem dX2_init_4 : decode cX2_init 4 = .ok (.aload_n 0, 1) := by decide +kernel
theorem dX2_init_5 : decode cX2_init 5 = .ok (.iconst 2, 1) := by decide +kernel
theorem dX2_init_6 : decode cX2_init 6 = .ok (.newarray .int, 2) := by decide +kernel
theorem dX2_init_8 : decode cX2_init 8 = .ok (.putfield 9, 3) := by decide +kernel
theorem dX2_init_11 : decode cX2_init 11 = .ok (.aload_n 0, 1) := by decide +kernel
theorem dX2_init_12 : decode cX2_init 12 = .ok (.getfield 9, 3) := by decide +kernel
theorem dX2_init_15 : decode cX2_init 15 = .ok (.iconst 0, 1) := by decide +kernel
theorem dX2_init_16 : decode cX2_init 16 = .ok (.iconst 3, 1) := by decide +kernel
theorem dX2_init_17 : decode cX2_init 17 = .ok (.invokestatic 15, 3) := by decide +kernel
theorem dX2_init_20 : decode cX2_init 20 = .ok (.aload_n 0, 1) := by decide +kernel
theorem dX2_init_21 : decode cX2_init 21 = .ok (.getfield 9, 3) := by decide +kernel
theorem dX2_init_24 : decode cX2_init 24 = .ok (.iconst 1, 1) := by decide +kernel
theorem dX2_init_25 : decode cX2_init 25 = .ok (.bipush 15, 2) := by decide +kernel
theorem dX2_init_27 : decode cX2_init 27 = .ok (.invokestatic 15, 3) := by decide +kernel
theorem dX2_init_30 : decode cX2_init 30 = .ok (.aload_n 0, 1) := by decide +kernel
theorem dX2_init_31 : decode cX2_init 31 = .ok (.bipush 36, 2) := by decide +kernel
theorem dX2_init_33 : decode cX2_init 33 = .ok (.newarray .int, 2) := by decide +kernel
theorem dX2_init_35 : decode cX2_init 35 = .ok (.putfield 19, 3) := by decide +kernel
theorem dX2_init_38 : decode cX2_init 38 = .ok (.aload_n 0, 1) := by decide +kernel
theorem dX2_init_39 : decode cX2_init 39 = .ok (.bipush 8, 2) := by decide +kernel
theorem dX2_init_41 : decode cX2_init 41 = .ok (.newarray .int, 2) := by decide +kernel
theorem dX2_init_43 : decode cX2_init 43 = .ok (.putfield 22, 3) := by decide +kernel
theorem dX2_init_46 : decode cX2_init 46 = .ok (.aload_n 0, 1) := by decide +kernel
theorem dX2_init_47 : decode cX2_init 47 = .ok (.bipush 18, 2) := by decide +kernel
theorem dX2_init_49 : decode cX2_init 49 = .ok (.newarray .int, 2) := by decide +kernel
theorem dX2_init_51 : decode cX2_init 51 = .ok (.putfield 25, 3) := by decide +kernel
theorem dX2_init_54 : decode cX2_init 54 = .ok (.aload_n 0, 1) := by decide +kernel
theorem dX2_init_55 : decode cX2_init 55 = .ok (.bipush 18, 2) := by decide +kernel
theorem dX2_init_57 : decode cX2_init 57 = .ok (.newarray .int, 2) := by decide +kernel
theorem dX2_init_59 : decode cX2_init 59 = .ok (.putfield 28, 3) := by decide +kernel
theorem dX2_init_62 : decode cX2_init 62 = .ok (.aload_n 0, 1) := by decide +kernel
theorem dX2_init_63 : decode cX2_init 63 = .ok (.bipush 6, 2) := by decide +kernel
theorem dX2_init_65 : decode cX2_init 65 = .ok (.newarray .int, 2) := by decide +kernel
theorem dX2_init_67 : decode cX2_init 67 = .ok (.putfield 31, 3) := by decide +kernel
theorem dX2_init_70 : decode cX2_init 70 = .ok (.aload_n 0, 1) := by decide +kernel
theorem dX2_init_71 : decode cX2_init 71 = .ok (.iconst 0, 1) := by decide +kernel
theorem dX2_init_72 : decode cX2_init 72 = .ok (.putfield 34, 3) := by decide +kernel
theorem dX2_init_75 : decode cX2_init 75 = .ok (.aload_n 0, 1) := by decide +kernel
theorem dX2_init_76 : decode cX2_init 76 = .ok (.iconst 0, 1) := by decide +kernel
theorem dX2_init_77 : decode cX2_init 77 = .ok (.putfield 38, 3) := by decide +kernel
theorem dX2_init_80 : decode cX2_init 80 = .ok (.aload_n 0, 1) := by decide +kernel
theorem dX2_init_81 : decode cX2_init 81 = .ok (.iconst 0, 1) := by decide +kernel
theorem dX2_init_82 : decode cX2_init 82 = .ok (.putfield 41, 3) := by decide +kernel
theorem dX2_init_85 : decode cX2_init 85 = .ok (.aload_n 0, 1) := by decide +kernel
theorem dX2_init_86 : decode cX2_init 86 = .ok (.iconst 0, 1) := by decide +kernel
theorem dX2_init_87 : decode cX2_init 87 = .ok (.putfield 44, 3) := by decide +kernel
theorem dX2_init_90 : decode cX2_init 90 = .ok (.aload_n 0, 1) := by decide +kernel
theorem dX2_init_91 : decode cX2_init 91 = .ok (.iconst 4, 1) := by decide +kernel
theorem dX2_init_92 : decode cX2_init 92 = .ok (.newarray .int, 2) := by decide +kernel
theorem dX2_init_94 : decode cX2_init 94 = .ok (.putfield 47, 3) := by decide +kernel
theorem dX2_init_97 : decode cX2_init 97 = .ok (.aload_n 0, 1) := by decide +kernel
theorem dX2_init_98 : decode cX2_init 98 = .ok (.iconst 4, 1) := by decide +kernel
theorem dX2_init_99 : decode cX2_init 99 = .ok (.newarray .int, 2) := by decide +kernel
theorem dX2_init_101 : decode cX2_init 101 = .ok (.putfield 50, 3) := by decide +kernel
theorem dX2_init_104 : decode cX2_init 104 = .ok (.return_, 1) := by decide +kernel
set_option maxRecDepth 20000 in
theorem ggX2_copyFrom_X4_copyRow : GoodIn wsX2_copyFrom wsX4_copyRow := goodIn_r _ [13, 14, 15, 16, 17, 18, 19, 20, 21] (by decide +kernel) (by decide +kernel)
set_option maxRecDepth 20000 in
theorem gX2_copyFrom_X4_copyRow_n53 : GoodIn wsX2_copyFrom (wsX4_copyRow) := ggX2_copyFrom_X4_copyRow
theorem dX2_copyFrom_0 : decode cX2_copyFrom 0 = .ok (.aload_n 1, 1) := by decide +kernel
theorem dX2_copyFrom_1 : decode cX2_copyFrom 1 = .ok (.ifnonnull 4, 3) := by decide +kernel
theorem dX2_copyFrom_4 : decode cX2_copyFrom 4 = .ok (.return_, 1) := by decide +kernel
theorem dX2_copyFrom_5 : decode cX2_copyFrom 5 = .ok (.aload_n 1, 1) := by decide +kernel
theorem dX2_copyFrom_6 : decode cX2_copyFrom 6 = .ok (.getfield 9, 3) := by decide +kernel
theorem dX2_copyFrom_9 : decode cX2_copyFrom 9 = .ok (.aload_n 0, 1) := by decide +kernel
theorem dX2_copyFrom_10 : decode cX2_copyFrom 10 = .ok (.getfield 9, 3) := by decide +kernel
theorem dX2_copyFrom_13 : decode cX2_copyFrom 13 = .ok (.invokestatic 53, 3) := by decide +kernel
theorem dX2_copyFrom_16 : decode cX2_copyFrom 16 = .ok (.aload_n 1, 1) := by decide +kernel
theorem dX2_copyFrom_17 : decode cX2_copyFrom 17 = .ok (.getfield 19, 3) := by decide +kernel
theorem dX2_copyFrom_20 : decode cX2_copyFrom 20 = .ok (.aload_n 0, 1) := by decide +kernel
theorem dX2_copyFrom_21 : decode cX2_copyFrom 21 = .ok (.getfield 19, 3) := by decide +kernel
theorem dX2_copyFrom_24 : decode cX2_copyFrom 24 = .ok (.invokestatic 53, 3) := by decide +kernel
theorem dX2_copyFrom_27 : decode cX2_copyFrom 27 = .ok (.aload_n 1, 1) := by decide +kernel
theorem dX2_copyFrom_28 : decode cX2_copyFrom 28 = .ok (.getfield 22, 3) := by decide +kernel
theorem dX2_copyFrom_31 : decode cX2_copyFrom 31 = .ok (.aload_n 0, 1) := by decide +kernel
theorem dX2_copyFrom_32 : decode cX2_copyFrom 32 = .ok (.getfield 22, 3) := by decide +kernel
theorem dX2_copyFrom_35 : decode cX2_copyFrom 35 = .ok (.invokestatic 53, 3) := by decide +kernel
theorem dX2_copyFrom_38 : decode cX2_copyFrom 38 = .ok (.aload_n 1, 1) := by decide +kernel
theorem dX2_copyFrom_39 : decode cX2_copyFrom 39 = .ok (.getfield 25, 3) := by decide +kernel
theorem dX2_copyFrom_42 : decode cX2_copyFrom 42 = .ok (.aload_n 0, 1) := by decide +kernel
theorem dX2_copyFrom_43 : decode cX2_copyFrom 43 = .ok (.getfield 25, 3) := by decide +kernel
theorem dX2_copyFrom_46 : decode cX2_copyFrom 46 = .ok (.invokestatic 53, 3) := by decide +kernel
theorem dX2_copyFrom_49 : decode cX2_copyFrom 49 = .ok (.aload_n 1, 1) := by decide +kernel
theorem dX2_copyFrom_50 : decode cX2_copyFrom 50 = .ok (.getfield 28, 3) := by decide +kernel
theorem dX2_copyFrom_53 : decode cX2_copyFrom 53 = .ok (.aload_n 0, 1) := by decide +kernel
theorem dX2_copyFrom_54 : decode cX2_copyFrom 54 = .ok (.getfield 28, 3) := by decide +kernel
theorem dX2_copyFrom_57 : decode cX2_copyFrom 57 = .ok (.invokestatic 53, 3) := by decide +kernel
theorem dX2_copyFrom_60 : decode cX2_copyFrom 60 = .ok (.aload_n 1, 1) := by decide +kernel
theorem dX2_copyFrom_61 : decode cX2_copyFrom 61 = .ok (.getfield 31, 3) := by decide +kernel
theorem dX2_copyFrom_64 : decode cX2_copyFrom 64 = .ok (.aload_n 0, 1) := by decide +kernel
theorem dX2_copyFrom_65 : decode cX2_copyFrom 65 = .ok (.getfield 31, 3) := by decide +kernel
theorem dX2_copyFrom_68 : decode cX2_copyFrom 68 = .ok (.invokestatic 53, 3) := by decide +kernel
theorem dX2_copyFrom_71 : decode cX2_copyFrom 71 = .ok (.aload_n 0, 1) := by decide +kernel
theorem dX2_copyFrom_72 : decode cX2_copyFrom 72 = .ok (.aload_n 1, 1) := by decide +kernel
theorem dX2_copyFrom_73 : decode cX2_copyFrom 73 = .ok (.getfield 34, 3) := by decide +kernel
theorem dX2_copyFrom_76 : decode cX2_copyFrom 76 = .ok (.putfield 34, 3) := by decide +kernel
theorem dX2_copyFrom_79 : decode cX2_copyFrom 79 = .ok (.aload_n 0, 1) := by decide +kernel
theorem dX2_copyFrom_80 : decode cX2_copyFrom 80 = .ok (.aload_n 1, 1) := by decide +kernel
theorem dX2_copyFrom_81 : decode cX2_copyFrom 81 = .ok (.getfield 38, 3) := by decide +kernel
theorem dX2_copyFrom_84 : decode cX2_copyFrom 84 = .ok (.putfield 38, 3) := by decide +kernel
theorem dX2_copyFrom_87 : decode cX2_copyFrom 87 = .ok (.aload_n 0, 1) := by decide +kernel
theorem dX2_copyFrom_88 : decode cX2_copyFrom 88 = .ok (.aload_n 1, 1) := by decide +kernel
theorem dX2_copyFrom_89 : decode cX2_copyFrom 89 = .ok (.getfield 41, 3) := by decide +kernel
theorem dX2_copyFrom_92 : decode cX2_copyFrom 92 = .ok (.putfield 41, 3) := by decide +kernel
theorem dX2_copyFrom_95 : decode cX2_copyFrom 95 = .ok (.aload_n 0, 1) := by decide +kernel
theorem dX2_copyFrom_96 : decode cX2_copyFrom 96 = .ok (.aload_n 1, 1) := by decide +kernel
theorem dX2_copyFrom_97 : decode cX2_copyFrom 97 = .ok (.getfield 44, 3) := by decide +kernel
theorem dX2_copyFrom_100 : decode cX2_copyFrom 100 = .ok (.putfield 44, 3) := by decide +kernel
theorem dX2_copyFrom_103 : decode cX2_copyFrom 103 = .ok (.return_, 1) := by decide +kernel
set_option maxRecDepth 20000 in
theorem ggX2_changeSetting_X4_isBetween : GoodIn wsX2_changeSetting wsX4_isBetween := goodIn_r _ [4] (by decide +kernel) (by decide +kernel)
set_option maxRecDepth 20000 in
theorem gX2_changeSetting_X4_isBetween_n57 : GoodIn wsX2_changeSetting (wsX4_isBetween) := ggX2_changeSetting_X4_isBetween
set_option maxRecDepth 20000 in
theorem ggX2_changeSetting_X4_at : GoodIn wsX2_changeSetting wsX4_at := goodIn_r _ [6] (by decide +kernel) (by decide +kernel)
set_option maxRecDepth 20000 in
theorem gX2_changeSetting_X4_at_n61 : GoodIn wsX2_changeSetting (wsX4_at) := ggX2_changeSetting_X4_at
set_option maxRecDepth 20000 in
theorem ggX2_changeSetting_X4_write : GoodIn wsX2_changeSetting wsX4_write := goodIn_r _ [8] (by decide +kernel) (by decide +kernel)
set_option maxRecDepth 20000 in
theorem gX2_changeSetting_X4_write_n15 : GoodIn wsX2_changeSetting (wsX4_write) := ggX2_changeSetting_X4_write
theorem dX2_changeSetting_0 : decode cX2_changeSetting 0 = .ok (.iload_n 1, 1) := by decide +kernel
theorem dX2_changeSetting_1 : decode cX2_changeSetting 1 = .ok (.ifCond .ne 13, 3) := by decide +kernel
theorem dX2_changeSetting_4 : decode cX2_changeSetting 4 = .ok (.iload_n 2, 1) := by decide +kernel
theorem dX2_changeSetting_5 : decode cX2_changeSetting 5 = .ok (.iconst 1, 1) := by decide +kernel
theorem dX2_changeSetting_6 : decode cX2_changeSetting 6 = .ok (.bipush 9, 2) := by decide +kernel
theorem dX2_changeSetting_8 : decode cX2_changeSetting 8 = .ok (.invokestatic 57, 3) := by decide +kernel
theorem dX2_changeSetting_11 : decode cX2_changeSetting 11 = .ok (.ifCond .ne 18, 3) := by decide +kernel
theorem dX2_changeSetting_14 : decode cX2_changeSetting 14 = .ok (.iload_n 1, 1) := by decide +kernel
theorem dX2_changeSetting_15 : decode cX2_changeSetting 15 = .ok (.iconst 1, 1) := by decide +kernel
theorem dX2_changeSetting_16 : decode cX2_changeSetting 16 = .ok (.if_icmp .ne 17, 3) := by decide +kernel
theorem dX2_changeSetting_19 : decode cX2_changeSetting 19 = .ok (.iload_n 2, 1) := by decide +kernel
theorem dX2_changeSetting_20 : decode cX2_changeSetting 20 = .ok (.iconst 0, 1) := by decide +kernel
theorem dX2_changeSetting_21 : decode cX2_changeSetting 21 = .ok (.bipush 60, 2) := by decide +kernel
theorem dX2_changeSetting_23 : decode cX2_changeSetting 23 = .ok (.invokestatic 57, 3) := by decide +kernel
theorem dX2_changeSetting_26 : decode cX2_changeSetting 26 = .ok (.ifCond .eq 7, 3) := by decide +kernel
theorem dX2_changeSetting_29 : decode cX2_changeSetting 29 = .ok (.iconst 1, 1) := by decide +kernel
theorem dX2_changeSetting_30 : decode cX2_changeSetting 30 = .ok (.goto 4, 3) := by decide +kernel
theorem dX2_changeSetting_33 : decode cX2_changeSetting 33 = .ok (.iconst 0, 1) := by decide +kernel
theorem dX2_changeSetting_34 : decode cX2_changeSetting 34 = .ok (.istore_n 3, 1) := by decide +kernel
theorem dX2_changeSetting_35 : decode cX2_changeSetting 35 = .ok (.iload_n 3, 1) := by decide +kernel
theorem dX2_changeSetting_36 : decode cX2_changeSetting 36 = .ok (.ifCond .ne 6, 3) := by decide +kernel
theorem dX2_changeSetting_39 : decode cX2_changeSetting 39 = .ok (.bipush (-2), 2) := by decide +kernel
theorem dX2_changeSetting_41 : decode cX2_changeSetting 41 = .ok (.ireturn, 1) := by decide +kernel
theorem dX2_changeSetting_42 : decode cX2_changeSetting 42 = .ok (.aload_n 0, 1) := by decide +kernel
theorem dX2_changeSetting_43 : decode cX2_changeSetting 43 = .ok (.getfield 9, 3) := by decide +kernel
theorem dX2_changeSetting_46 : decode cX2_changeSetting 46 = .ok (.iload_n 1, 1) := by decide +kernel
theorem dX2_changeSetting_47 : decode cX2_changeSetting 47 = .ok (.invokestatic 61, 3) := by decide +kernel
theorem dX2_changeSetting_50 : decode cX2_changeSetting 50 = .ok (.istore 4, 2) := by decide +kernel
theorem dX2_changeSetting_52 : decode cX2_changeSetting 52 = .ok (.aload_n 0, 1) := by decide +kernel
theorem dX2_changeSetting_53 : decode cX2_changeSetting 53 = .ok (.getfield 9, 3) := by decide +kernel
theorem dX2_changeSetting_56 : decode cX2_changeSetting 56 = .ok (.iload_n 1, 1) := by decide +kernel
theorem dX2_changeSetting_57 : decode cX2_changeSetting 57 = .ok (.iload_n 2, 1) := by decide +kernel
theorem dX2_changeSetting_58 : decode cX2_changeSetting 58 = .ok (.invokestatic 15, 3) := by decide +kernel
theorem dX2_changeSetting_61 : decode cX2_changeSetting 61 = .ok (.iload 4, 2) := by decide +kernel
theorem dX2_changeSetting_63 : decode cX2_changeSetting 63 = .ok (.ireturn, 1) := by decide +kernel
set_option maxRecDepth 20000 in
theorem ggX2_addDrops_X4_isWithin : GoodIn wsX2_addDrops wsX4_isWithin := goodIn_r _ [5] (by decide +kernel) (by decide +kernel)
set_option maxRecDepth 20000 in
theorem gX2_addDrops_X4_isWithin_n65 : GoodIn wsX2_addDrops (wsX4_isWithin) := ggX2_addDrops_X4_isWithin
set_option maxRecDepth 20000 in
theorem ggX2_addDrops_X4_isBetween : GoodIn wsX2_addDrops wsX4_isBetween := goodIn_r _ [7] (by decide +kernel) (by decide +kernel)
set_option maxRecDepth 20000 in
theorem gX2_addDrops_X4_isBetween_n57 : GoodIn wsX2_addDrops (wsX4_isBetween) := ggX2_addDrops_X4_isBetween
set_option maxRecDepth 20000 in
theorem ggX2_addDrops_X2_allDrops : GoodIn wsX2_addDrops wsX2_allDrops := goodIn_r _ [12, 1, 21, 22, 23, 24, 25, 26, 27, 28, 29, 30, 31, 32] (by decide +kernel) (by decide +kernel)
set_option maxRecDepth 20000 in
theorem gX2_addDrops_X2_allDrops : GoodIn wsX2_addDrops (wsV RX2 69 RX2 yX2_allDrops wsX2_allDrops) := goodIn_app (goodIn_of _ (by decide +kernel)) ggX2_addDrops_X2_allDrops
set_option maxRecDepth 20000 in
theorem ggX2_addDrops_X4_add : GoodIn wsX2_addDrops wsX4_add := goodIn_r _ [14, 15, 16, 4, 17, 18, 19, 20] (by decide +kernel) (by decide +kernel)
set_option maxRecDepth 20000 in
theorem gX2_addDrops_X4_add_n73 : GoodIn wsX2_addDrops (wsX4_add) := ggX2_addDrops_X4_add
theorem dX2_addDrops_0 : decode cX2_addDrops 0 = .ok (.iload_n 1, 1) := by decide +kernel
theorem dX2_addDrops_1 : decode cX2_addDrops 1 = .ok (.bipush 8, 2) := by decide +kernel
theorem dX2_addDrops_3 : decode cX2_addDrops 3 = .ok (.invokestatic 65, 3) := by decide +kernel
theorem dX2_addDrops_6 : decode cX2_addDrops 6 = .ok (.ifCond .eq 11, 3) := by decide +kernel
theorem dX2_addDrops_9 : decode cX2_addDrops 9 = .ok (.iload_n 2, 1) := by decide +kernel
theorem dX2_addDrops_10 : decode cX2_addDrops 10 = .ok (.iconst 4, 1) := by decide +kernel
theorem dX2_addDrops_11 : decode cX2_addDrops 11 = .ok (.invokestatic 65, 3) := by decide +kernel
theorem dX2_addDrops_14 : decode cX2_addDrops 14 = .ok (.ifCond .ne 5, 3) := by decide +kernel
theorem dX2_addDrops_17 : decode cX2_addDrops 17 = .ok (.iconst (-1), 1) := by decide +kernel
theorem dX2_addDrops_18 : decode cX2_addDrops 18 = .ok (.ireturn, 1) := by decide +kernel
theorem dX2_addDrops_19 : decode cX2_addDrops 19 = .ok (.iload_n 3, 1) := by decide +kernel
theorem dX2_addDrops_20 : decode cX2_addDrops 20 = .ok (.iconst 1, 1) := by decide +kernel
theorem dX2_addDrops_21 : decode cX2_addDrops 21 = .ok (.bipush 81, 2) := by decide +kernel
theorem dX2_addDrops_23 : decode cX2_addDrops 23 = .ok (.invokestatic 57, 3) := by decide +kernel
theorem dX2_addDrops_26 : decode cX2_addDrops 26 = .ok (.ifCond .ne 6, 3) := by decide +kernel
theorem dX2_addDrops_29 : decode cX2_addDrops 29 = .ok (.bipush (-2), 2) := by decide +kernel
theorem dX2_addDrops_31 : decode cX2_addDrops 31 = .ok (.ireturn, 1) := by decide +kernel
theorem dX2_addDrops_32 : decode cX2_addDrops 32 = .ok (.aload_n 0, 1) := by decide +kernel
theorem dX2_addDrops_33 : decode cX2_addDrops 33 = .ok (.iload_n 1, 1) := by decide +kernel
theorem dX2_addDrops_34 : decode cX2_addDrops 34 = .ok (.invokevirtual 69, 3) := by decide +kernel
theorem dX2_addDrops_37 : decode cX2_addDrops 37 = .ok (.iload_n 3, 1) := by decide +kernel
theorem dX2_addDrops_38 : decode cX2_addDrops 38 = .ok (.iadd, 1) := by decide +kernel
theorem dX2_addDrops_39 : decode cX2_addDrops 39 = .ok (.istore 4, 2) := by decide +kernel
theorem dX2_addDrops_41 : decode cX2_addDrops 41 = .ok (.iload 4, 2) := by decide +kernel
theorem dX2_addDrops_43 : decode cX2_addDrops 43 = .ok (.bipush 81, 2) := by decide +kernel
theorem dX2_addDrops_45 : decode cX2_addDrops 45 = .ok (.if_icmp .le 6, 3) := by decide +kernel
theorem dX2_addDrops_48 : decode cX2_addDrops 48 = .ok (.bipush (-4), 2) := by decide +kernel
theorem dX2_addDrops_50 : decode cX2_addDrops 50 = .ok (.ireturn, 1) := by decide +kernel
theorem dX2_addDrops_51 : decode cX2_addDrops 51 = .ok (.aload_n 0, 1) := by decide +kernel
theorem dX2_addDrops_52 : decode cX2_addDrops 52 = .ok (.getfield 19, 3) := by decide +kernel
theorem dX2_addDrops_55 : decode cX2_addDrops 55 = .ok (.iload_n 1, 1) := by decide +kernel
theorem dX2_addDrops_56 : decode cX2_addDrops 56 = .ok (.iconst 4, 1) := by decide +kernel
theorem dX2_addDrops_57 : decode cX2_addDrops 57 = .ok (.imul, 1) := by decide +kernel
theorem dX2_addDrops_58 : decode cX2_addDrops 58 = .ok (.iload_n 2, 1) := by decide +kernel
theorem dX2_addDrops_59 : decode cX2_addDrops 59 = .ok (.iadd, 1) := by decide +kernel
theorem dX2_addDrops_60 : decode cX2_addDrops 60 = .ok (.iload_n 3, 1) := by decide +kernel
theorem dX2_addDrops_61 : decode cX2_addDrops 61 = .ok (.invokestatic 73, 3) := by decide +kernel
theorem dX2_addDrops_64 : decode cX2_addDrops 64 = .ok (.aload_n 0, 1) := by decide +kernel
theorem dX2_addDrops_65 : decode cX2_addDrops 65 = .ok (.dup, 1) := by decide +kernel
theorem dX2_addDrops_66 : decode cX2_addDrops 66 = .ok (.getfield 34, 3) := by decide +kernel
theorem dX2_addDrops_69 : decode cX2_addDrops 69 = .ok (.iload_n 3, 1) := by decide +kernel
theorem dX2_addDrops_70 : decode cX2_addDrops 70 = .ok (.iadd, 1) := by decide +kernel
theorem dX2_addDrops_71 : decode cX2_addDrops 71 = .ok (.putfield 34, 3) := by decide +kernel
theorem dX2_addDrops_74 : decode cX2_addDrops 74 = .ok (.iload 4, 2) := by decide +kernel
theorem dX2_addDrops_76 : decode cX2_addDrops 76 = .ok (.ireturn, 1) := by decide +kernel
set_option maxRecDepth 20000 in
theorem ggX2_thinPot_X4_isWithin : GoodIn wsX2_thinPot wsX4_isWithin := goodIn_r _ [6] (by decide +kernel) (by decide +kernel)
set_option maxRecDepth 20000 in
theorem gX2_thinPot_X4_isWithin_n65 : GoodIn wsX2_thinPot (wsX4_isWithin) := ggX2_thinPot_X4_isWithin
set_option maxRecDepth 20000 in
theorem ggX2_thinPot_X2_allDrops : GoodIn wsX2_thinPot wsX2_allDrops := goodIn_r _ [11, 1, 20, 21, 22, 23, 24, 25, 26, 27, 28, 29, 30, 31] (by decide +kernel) (by decide +kernel)
set_option maxRecDepth 20000 in
theorem gX2_thinPot_X2_allDrops : GoodIn wsX2_thinPot (wsV RX2 69 RX2 yX2_allDrops wsX2_allDrops) := goodIn_app (goodIn_of _ (by decide +kernel)) ggX2_thinPot_X2_allDrops
set_option maxRecDepth 20000 in
theorem ggX2_thinPot_X4_add : GoodIn wsX2_thinPot wsX4_add := goodIn_r _ [13, 14, 15, 5, 16, 17, 18, 19] (by decide +kernel) (by decide +kernel)
set_option maxRecDepth 20000 in
theorem gX2_thinPot_X4_add_n73 : GoodIn wsX2_thinPot (wsX4_add) := ggX2_thinPot_X4_add
theorem dX2_thinPot_0 : decode cX2_thinPot 0 = .ok (.iload_n 1, 1) := by decide +kernel
theorem dX2_thinPot_1 : decode cX2_thinPot 1 = .ok (.bipush 8, 2) := by decide +kernel
theorem dX2_thinPot_3 : decode cX2_thinPot 3 = .ok (.invokestatic 65, 3) := by decide +kernel
theorem dX2_thinPot_6 : decode cX2_thinPot 6 = .ok (.ifCond .ne 5, 3) := by decide +kernel
theorem dX2_thinPot_9 : decode cX2_thinPot 9 = .ok (.iconst (-1), 1) := by decide +kernel
theorem dX2_thinPot_10 : decode cX2_thinPot 10 = .ok (.ireturn, 1) := by decide +kernel
theorem dX2_thinPot_11 : decode cX2_thinPot 11 = .ok (.aload_n 0, 1) := by decide +kernel
theorem dX2_thinPot_12 : decode cX2_thinPot 12 = .ok (.iload_n 1, 1) := by decide +kernel
theorem dX2_thinPot_13 : decode cX2_thinPot 13 = .ok (.invokevirtual 69, 3) := by decide +kernel
theorem dX2_thinPot_16 : decode cX2_thinPot 16 = .ok (.istore_n 2, 1) := by decide +kernel
theorem dX2_thinPot_17 : decode cX2_thinPot 17 = .ok (.iload_n 2, 1) := by decide +kernel
theorem dX2_thinPot_18 : decode cX2_thinPot 18 = .ok (.ifCond .ne 6, 3) := by decide +kernel
theorem dX2_thinPot_21 : decode cX2_thinPot 21 = .ok (.bipush (-5), 2) := by decide +kernel
theorem dX2_thinPot_23 : decode cX2_thinPot 23 = .ok (.ireturn, 1) := by decide +kernel
theorem dX2_thinPot_24 : decode cX2_thinPot 24 = .ok (.iload_n 2, 1) := by decide +kernel
theorem dX2_thinPot_25 : decode cX2_thinPot 25 = .ok (.iconst 3, 1) := by decide +kernel
theorem dX2_thinPot_26 : decode cX2_thinPot 26 = .ok (.imul, 1) := by decide +kernel
theorem dX2_thinPot_27 : decode cX2_thinPot 27 = .ok (.istore_n 3, 1) := by decide +kernel
theorem dX2_thinPot_28 : decode cX2_thinPot 28 = .ok (.iload_n 3, 1) := by decide +kernel
theorem dX2_thinPot_29 : decode cX2_thinPot 29 = .ok (.bipush 81, 2) := by decide +kernel
theorem dX2_thinPot_31 : decode cX2_thinPot 31 = .ok (.if_icmp .le 6, 3) := by decide +kernel
theorem dX2_thinPot_34 : decode cX2_thinPot 34 = .ok (.bipush (-4), 2) := by decide +kernel
theorem dX2_thinPot_36 : decode cX2_thinPot 36 = .ok (.ireturn, 1) := by decide +kernel
theorem dX2_thinPot_37 : decode cX2_thinPot 37 = .ok (.aload_n 0, 1) := by decide +kernel
theorem dX2_thinPot_38 : decode cX2_thinPot 38 = .ok (.getfield 19, 3) := by decide +kernel
theorem dX2_thinPot_41 : decode cX2_thinPot 41 = .ok (.iload_n 1, 1) := by decide +kernel
theorem dX2_thinPot_42 : decode cX2_thinPot 42 = .ok (.iconst 4, 1) := by decide +kernel
theorem dX2_thinPot_43 : decode cX2_thinPot 43 = .ok (.imul, 1) := by decide +kernel
theorem dX2_thinPot_44 : decode cX2_thinPot 44 = .ok (.iconst 3, 1) := by decide +kernel
theorem dX2_thinPot_45 : decode cX2_thinPot 45 = .ok (.iadd, 1) := by decide +kernel
theorem dX2_thinPot_46 : decode cX2_thinPot 46 = .ok (.iload_n 3, 1) := by decide +kernel
theorem dX2_thinPot_47 : decode cX2_thinPot 47 = .ok (.iload_n 2, 1) := by decide +kernel
theorem dX2_thinPot_48 : decode cX2_thinPot 48 = .ok (.isub, 1) := by decide +kernel
theorem dX2_thinPot_49 : decode cX2_thinPot 49 = .ok (.invokestatic 73, 3) := by decide +kernel
theorem dX2_thinPot_52 : decode cX2_thinPot 52 = .ok (.aload_n 0, 1) := by decide +kernel
theorem dX2_thinPot_53 : decode cX2_thinPot 53 = .ok (.getfield 22, 3) := by decide +kernel
theorem dX2_thinPot_56 : decode cX2_thinPot 56 = .ok (.iload_n 1, 1) := by decide +kernel
theorem dX2_thinPot_57 : decode cX2_thinPot 57 = .ok (.iconst 1, 1) := by decide +kernel
theorem dX2_thinPot_58 : decode cX2_thinPot 58 = .ok (.invokestatic 73, 3) := by decide +kernel
theorem dX2_thinPot_61 : decode cX2_thinPot 61 = .ok (.aload_n 0, 1) := by decide +kernel
theorem dX2_thinPot_62 : decode cX2_thinPot 62 = .ok (.dup, 1) := by decide +kernel
theorem dX2_thinPot_63 : decode cX2_thinPot 63 = .ok (.getfield 34, 3) := by decide +kernel
theorem dX2_thinPot_66 : decode cX2_thinPot 66 = .ok (.iload_n 3, 1) := by decide +kernel
theorem dX2_thinPot_67 : decode cX2_thinPot 67 = .ok (.iload_n 2, 1) := by decide +kernel
theorem dX2_thinPot_68 : decode cX2_thinPot 68 = .ok (.isub, 1) := by decide +kernel
theorem dX2_thinPot_69 : decode cX2_thinPot 69 = .ok (.iadd, 1) := by decide +kernel
theorem dX2_thinPot_70 : decode cX2_thinPot 70 = .ok (.putfield 34, 3) := by decide +kernel
theorem dX2_thinPot_73 : decode cX2_thinPot 73 = .ok (.iload_n 3, 1) := by decide +kernel
theorem dX2_thinPot_74 : decode cX2_thinPot 74 = .ok (.ireturn, 1) := by decide +kernel
set_option maxRecDepth 20000 in
theorem ggX2_pourOver_X4_isWithin : GoodIn wsX2_pourOver wsX4_isWithin := goodIn_r _ [3] (by decide +kernel) (by decide +kernel)
set_option maxRecDepth 20000 in
theorem gX2_pourOver_X4_isWithin_n65 : GoodIn wsX2_pourOver (wsX4_isWithin) := ggX2_pourOver_X4_isWithin
set_option maxRecDepth 20000 in
theorem ggX2_pourOver_X4_isBetween : GoodIn wsX2_pourOver wsX4_isBetween := goodIn_r _ [5] (by decide +kernel) (by decide +kernel)
set_option maxRecDepth 20000 in
theorem gX2_pourOver_X4_isBetween_n57 : GoodIn wsX2_pourOver (wsX4_isBetween) := ggX2_pourOver_X4_isBetween
set_option maxRecDepth 20000 in
theorem ggX2_pourOver_X2_move : GoodIn wsX2_pourOver wsX2_move := goodIn_r _ [10, 11, 12, 13, 14, 15, 9, 16, 17, 18, 19, 20, 21, 22, 2, 23, 24, 25, 26, 27, 28, 29, 30, 31, 32, 33, 34, 35, 36, 37, 38, 39, 40, 41, 42, 43, 44, 45, 46, 47, 48, 49] (by decide +kernel) (by decide +kernel)
set_option maxRecDepth 20000 in
theorem gX2_pourOver_X2_move : GoodIn wsX2_pourOver (wsV RX2 76 RX2 yX2_move wsX2_move) := goodIn_app (goodIn_of _ (by decide +kernel)) ggX2_pourOver_X2_move
theorem dX2_pourOver_0 : decode cX2_pourOver 0 = .ok (.iload_n 1, 1) := by decide +kernel
theorem dX2_pourOver_1 : decode cX2_pourOver 1 = .ok (.bipush 8, 2) := by decide +kernel
theorem dX2_pourOver_3 : decode cX2_pourOver 3 = .ok (.invokestatic 65, 3) := by decide +kernel
theorem dX2_pourOver_6 : decode cX2_pourOver 6 = .ok (.ifCond .eq 12, 3) := by decide +kernel
theorem dX2_pourOver_9 : decode cX2_pourOver 9 = .ok (.iload_n 2, 1) := by decide +kernel
theorem dX2_pourOver_10 : decode cX2_pourOver 10 = .ok (.bipush 8, 2) := by decide +kernel
theorem dX2_pourOver_12 : decode cX2_pourOver 12 = .ok (.invokestatic 65, 3) := by decide +kernel
theorem dX2_pourOver_15 : decode cX2_pourOver 15 = .ok (.ifCond .ne 5, 3) := by decide +kernel
theorem dX2_pourOver_18 : decode cX2_pourOver 18 = .ok (.iconst (-1), 1) := by decide +kernel
theorem dX2_pourOver_19 : decode cX2_pourOver 19 = .ok (.ireturn, 1) := by decide +kernel
theorem dX2_pourOver_20 : decode cX2_pourOver 20 = .ok (.iload_n 1, 1) := by decide +kernel
theorem dX2_pourOver_21 : decode cX2_pourOver 21 = .ok (.iload_n 2, 1) := by decide +kernel
theorem dX2_pourOver_22 : decode cX2_pourOver 22 = .ok (.if_icmp .eq 13, 3) := by decide +kernel
theorem dX2_pourOver_25 : decode cX2_pourOver 25 = .ok (.iload_n 3, 1) := by decide +kernel
theorem dX2_pourOver_26 : decode cX2_pourOver 26 = .ok (.iconst 1, 1) := by decide +kernel
theorem dX2_pourOver_27 : decode cX2_pourOver 27 = .ok (.bipush 81, 2) := by decide +kernel
theorem dX2_pourOver_29 : decode cX2_pourOver 29 = .ok (.invokestatic 57, 3) := by decide +kernel
theorem dX2_pourOver_32 : decode cX2_pourOver 32 = .ok (.ifCond .ne 6, 3) := by decide +kernel
theorem dX2_pourOver_35 : decode cX2_pourOver 35 = .ok (.bipush (-2), 2) := by decide +kernel
theorem dX2_pourOver_37 : decode cX2_pourOver 37 = .ok (.ireturn, 1) := by decide +kernel
theorem dX2_pourOver_38 : decode cX2_pourOver 38 = .ok (.aload_n 0, 1) := by decide +kernel
theorem dX2_pourOver_39 : decode cX2_pourOver 39 = .ok (.iload_n 1, 1) := by decide +kernel
theorem dX2_pourOver_40 : decode cX2_pourOver 40 = .ok (.iload_n 2, 1) := by decide +kernel
theorem dX2_pourOver_41 : decode cX2_pourOver 41 = .ok (.iload_n 3, 1) := by decide +kernel
theorem dX2_pourOver_42 : decode cX2_pourOver 42 = .ok (.bipush 81, 2) := by decide +kernel
theorem dX2_pourOver_44 : decode cX2_pourOver 44 = .ok (.invokevirtual 76, 3) := by decide +kernel
theorem dX2_pourOver_47 : decode cX2_pourOver 47 = .ok (.ireturn, 1) := by decide +kernel
set_option maxRecDepth 20000 in
theorem ggX2_emptyPot_X4_isWithin : GoodIn wsX2_emptyPot wsX4_isWithin := goodIn_r _ [3] (by decide +kernel) (by decide +kernel)
set_option maxRecDepth 20000 in
theorem gX2_emptyPot_X4_isWithin_n65 : GoodIn wsX2_emptyPot (wsX4_isWithin) := ggX2_emptyPot_X4_isWithin
set_option maxRecDepth 20000 in
theorem ggX2_emptyPot_X2_sink : GoodIn wsX2_emptyPot wsX2_sink := goodIn_r _ [8, 9, 10, 11, 12, 13, 7, 14, 15, 2, 16, 17, 18, 19, 20, 21, 22, 23, 24, 25, 26, 27, 28] (by decide +kernel) (by decide +kernel)
set_option maxRecDepth 20000 in
theorem gX2_emptyPot_X2_sink : GoodIn wsX2_emptyPot (wsV RX2 80 RX2 yX2_sink wsX2_sink) := goodIn_app (goodIn_of _ (by decide +kernel)) ggX2_emptyPot_X2_sink
theorem dX2_emptyPot_0 : decode cX2_emptyPot 0 = .ok (.iload_n 1, 1) := by decide +kernel
theorem dX2_emptyPot_1 : decode cX2_emptyPot 1 = .ok (.bipush 8, 2) := by decide +kernel
theorem dX2_emptyPot_3 : decode cX2_emptyPot 3 = .ok (.invokestatic 65, 3) := by decide +kernel
theorem dX2_emptyPot_6 : decode cX2_emptyPot 6 = .ok (.ifCond .ne 5, 3) := by decide +kernel
theorem dX2_emptyPot_9 : decode cX2_emptyPot 9 = .ok (.iconst (-1), 1) := by decide +kernel
theorem dX2_emptyPot_10 : decode cX2_emptyPot 10 = .ok (.ireturn, 1) := by decide +kernel
theorem dX2_emptyPot_11 : decode cX2_emptyPot 11 = .ok (.aload_n 0, 1) := by decide +kernel
theorem dX2_emptyPot_12 : decode cX2_emptyPot 12 = .ok (.iload_n 1, 1) := by decide +kernel
theorem dX2_emptyPot_13 : decode cX2_emptyPot 13 = .ok (.invokevirtual 80, 3) := by decide +kernel
theorem dX2_emptyPot_16 : decode cX2_emptyPot 16 = .ok (.ireturn, 1) := by decide +kernel
set_option maxRecDepth 20000 in
theorem ggX2_dipBrush_X4_isWithin : GoodIn wsX2_dipBrush wsX4_isWithin := goodIn_r _ [3] (by decide +kernel) (by decide +kernel)
set_option maxRecDepth 20000 in
theorem gX2_dipBrush_X4_isWithin_n65 : GoodIn wsX2_dipBrush (wsX4_isWithin) := ggX2_dipBrush_X4_isWithin
set_option maxRecDepth 20000 in
theorem ggX2_dipBrush_X4_isBetween : GoodIn wsX2_dipBrush wsX4_isBetween := goodIn_r _ [5] (by decide +kernel) (by decide +kernel)
set_option maxRecDepth 20000 in
theorem gX2_dipBrush_X4_isBetween_n57 : GoodIn wsX2_dipBrush (wsX4_isBetween) := ggX2_dipBrush_X4_isBetween
set_option maxRecDepth 20000 in
theorem ggX2_dipBrush_X2_move : GoodIn wsX2_dipBrush wsX2_move := goodIn_r _ [10, 11, 12, 13, 14, 15, 9, 16, 17, 18, 19, 20, 21, 22, 2, 23, 24, 25, 26, 27, 28, 29, 30, 31, 32, 33, 34, 35, 36, 37, 38, 39, 40, 41, 42, 43, 44, 45, 46, 47, 48, 49] (by decide +kernel) (by decide +kernel)
set_option maxRecDepth 20000 in
theorem gX2_dipBrush_X2_move : GoodIn wsX2_dipBrush (wsV RX2 76 RX2 yX2_move wsX2_move) := goodIn_app (goodIn_of _ (by decide +kernel)) ggX2_dipBrush_X2_move
theorem dX2_dipBrush_0 : decode cX2_dipBrush 0 = .ok (.iload_n 1, 1) := by decide +kernel
theorem dX2_dipBrush_1 : decode cX2_dipBrush 1 = .ok (.bipush 8, 2) := by decide +kernel
theorem dX2_dipBrush_3 : decode cX2_dipBrush 3 = .ok (.invokestatic 65, 3) := by decide +kernel
theorem dX2_dipBrush_6 : decode cX2_dipBrush 6 = .ok (.ifCond .ne 5, 3) := by decide +kernel
theorem dX2_dipBrush_9 : decode cX2_dipBrush 9 = .ok (.iconst (-1), 1) := by decide +kernel
theorem dX2_dipBrush_10 : decode cX2_dipBrush 10 = .ok (.ireturn, 1) := by decide +kernel
theorem dX2_dipBrush_11 : decode cX2_dipBrush 11 = .ok (.iload_n 2, 1) := by decide +kernel
theorem dX2_dipBrush_12 : decode cX2_dipBrush 12 = .ok (.iconst 1, 1) := by decide +kernel
theorem dX2_dipBrush_13 : decode cX2_dipBrush 13 = .ok (.bipush 9, 2) := by decide +kernel
theorem dX2_dipBrush_15 : decode cX2_dipBrush 15 = .ok (.invokestatic 57, 3) := by decide +kernel
theorem dX2_dipBrush_18 : decode cX2_dipBrush 18 = .ok (.ifCond .ne 6, 3) := by decide +kernel
theorem dX2_dipBrush_21 : decode cX2_dipBrush 21 = .ok (.bipush (-2), 2) := by decide +kernel
theorem dX2_dipBrush_23 : decode cX2_dipBrush 23 = .ok (.ireturn, 1) := by decide +kernel
theorem dX2_dipBrush_24 : decode cX2_dipBrush 24 = .ok (.aload_n 0, 1) := by decide +kernel
theorem dX2_dipBrush_25 : decode cX2_dipBrush 25 = .ok (.iload_n 1, 1) := by decide +kernel
theorem dX2_dipBrush_26 : decode cX2_dipBrush 26 = .ok (.bipush 8, 2) := by decide +kernel
theorem dX2_dipBrush_28 : decode cX2_dipBrush 28 = .ok (.iload_n 2, 1) := by decide +kernel
theorem dX2_dipBrush_29 : decode cX2_dipBrush 29 = .ok (.bipush 9, 2) := by decide +kernel
theorem dX2_dipBrush_31 : decode cX2_dipBrush 31 = .ok (.invokevirtual 76, 3) := by decide +kernel
theorem dX2_dipBrush_34 : decode cX2_dipBrush 34 = .ok (.ireturn, 1) := by decide +kernel
set_option maxRecDepth 20000 in
theorem ggX2_paintPanel_X4_isWithin : GoodIn wsX2_paintPanel wsX4_isWithin := goodIn_r _ [7] (by decide +kernel) (by decide +kernel)
set_option maxRecDepth 20000 in
theorem gX2_paintPanel_X4_isWithin_n65 : GoodIn wsX2_paintPanel (wsX4_isWithin) := ggX2_paintPanel_X4_isWithin
set_option maxRecDepth 20000 in
theorem ggX2_paintPanel_X4_at : GoodIn wsX2_paintPanel wsX4_at := goodIn_r _ [9] (by decide +kernel) (by decide +kernel)
set_option maxRecDepth 20000 in
theorem gX2_paintPanel_X4_at_n61 : GoodIn wsX2_paintPanel (wsX4_at) := ggX2_paintPanel_X4_at
set_option maxRecDepth 20000 in
theorem ggX2_paintPanel_X2_allDrops : GoodIn wsX2_paintPanel wsX2_allDrops := goodIn_r _ [14, 15, 53, 54, 55, 56, 57, 58, 59, 60, 61, 62, 63, 64] (by decide +kernel) (by decide +kernel)
set_option maxRecDepth 20000 in
theorem gX2_paintPanel_X2_allDrops : GoodIn wsX2_paintPanel (wsV RX2 69 RX2 yX2_allDrops wsX2_allDrops) := goodIn_app (goodIn_of _ (by decide +kernel)) ggX2_paintPanel_X2_allDrops
set_option maxRecDepth 20000 in
theorem ggX2_paintPanel_X2_strength : GoodIn wsX2_paintPanel wsX2_strength := goodIn_r _ [19, 15, 8, 6, 9, 10, 11, 12, 13, 14, 20, 21, 53, 54, 55, 56, 57, 58, 59, 60, 61, 62, 63, 64] (by decide +kernel) (by decide +kernel)
set_option maxRecDepth 20000 in
theorem gX2_paintPanel_X2_strength : GoodIn wsX2_paintPanel (wsV RX2 83 RX2 yX2_strength wsX2_strength) := goodIn_app (goodIn_of _ (by decide +kernel)) ggX2_paintPanel_X2_strength
set_option maxRecDepth 20000 in
theorem ggX2_paintPanel_X4_write : GoodIn wsX2_paintPanel wsX4_write := goodIn_r _ [23] (by decide +kernel) (by decide +kernel)
set_option maxRecDepth 20000 in
theorem gX2_paintPanel_X4_write_n15 : GoodIn wsX2_paintPanel (wsX4_write) := ggX2_paintPanel_X4_write
set_option maxRecDepth 20000 in
theorem ggX2_paintPanel_X2_takeOut : GoodIn wsX2_paintPanel wsX2_takeOut := goodIn_r _ [27, 15, 28, 29, 10, 11, 12, 13, 14, 8, 6, 9, 20, 21, 22, 23, 30, 31, 32, 33, 34, 35, 36, 37, 38, 39, 53, 54, 55, 56, 57, 58, 59, 60, 61, 62, 63, 64] (by decide +kernel) (by decide +kernel)
set_option maxRecDepth 20000 in
theorem gX2_paintPanel_X2_takeOut : GoodIn wsX2_paintPanel (wsV RX2 87 RX2 yX2_takeOut wsX2_takeOut) := goodIn_app (goodIn_of _ (by decide +kernel)) ggX2_paintPanel_X2_takeOut
set_option maxRecDepth 20000 in
theorem ggX2_paintPanel_X4_add : GoodIn wsX2_paintPanel wsX4_add := goodIn_r _ [37, 38, 8, 6, 9, 39, 22, 23] (by decide +kernel) (by decide +kernel)
set_option maxRecDepth 20000 in
theorem gX2_paintPanel_X4_add_n73 : GoodIn wsX2_paintPanel (wsX4_add) := ggX2_paintPanel_X4_add
set_option maxRecDepth 20000 in
theorem ggX2_paintPanel_X2_distanceOfPanel : GoodIn wsX2_paintPanel wsX2_distanceOfPanel := goodIn_r _ [43, 2, 8, 6, 9, 44, 45, 46, 13, 47, 48, 49, 50, 51, 52, 53, 54, 55, 56, 57, 58, 59, 60, 61, 62, 63, 64] (by decide +kernel) (by decide +kernel)
set_option maxRecDepth 20000 in
theorem gX2_paintPanel_X2_distanceOfPanel : GoodIn wsX2_paintPanel (wsV RX2 91 RX2 yX2_distanceOfPanel wsX2_distanceOfPanel) := goodIn_app (goodIn_of _ (by decide +kernel)) ggX2_paintPanel_X2_distanceOfPanel
theorem dX2_paintPanel_0 : decode cX2_paintPanel 0 = .ok (.iload_n 1, 1) := by decide +kernel
theorem dX2_paintPanel_1 : decode cX2_paintPanel 1 = .ok (.bipush 6, 2) := by decide +kernel
theorem dX2_paintPanel_3 : decode cX2_paintPanel 3 = .ok (.invokestatic 65, 3) := by decide +kernel
theorem dX2_paintPanel_6 : decode cX2_paintPanel 6 = .ok (.ifCond .ne 5, 3) := by decide +kernel
theorem dX2_paintPanel_9 : decode cX2_paintPanel 9 = .ok (.iconst (-1), 1) := by decide +kernel
theorem dX2_paintPanel_10 : decode cX2_paintPanel 10 = .ok (.ireturn, 1) := by decide +kernel
theorem dX2_paintPanel_11 : decode cX2_paintPanel 11 = .ok (.aload_n 0, 1) := by decide +kernel
theorem dX2_paintPanel_12 : decode cX2_paintPanel 12 = .ok (.getfield 9, 3) := by decide +kernel
theorem dX2_paintPanel_15 : decode cX2_paintPanel 15 = .ok (.iconst 0, 1) := by decide +kernel
theorem dX2_paintPanel_16 : decode cX2_paintPanel 16 = .ok (.invokestatic 61, 3) := by decide +kernel
theorem dX2_paintPanel_19 : decode cX2_paintPanel 19 = .ok (.istore_n 2, 1) := by decide +kernel
theorem dX2_paintPanel_20 : decode cX2_paintPanel 20 = .ok (.aload_n 0, 1) := by decide +kernel
theorem dX2_paintPanel_21 : decode cX2_paintPanel 21 = .ok (.bipush 8, 2) := by decide +kernel
theorem dX2_paintPanel_23 : decode cX2_paintPanel 23 = .ok (.invokevirtual 69, 3) := by decide +kernel
theorem dX2_paintPanel_26 : decode cX2_paintPanel 26 = .ok (.iload_n 2, 1) := by decide +kernel
theorem dX2_paintPanel_27 : decode cX2_paintPanel 27 = .ok (.if_icmp .ge 6, 3) := by decide +kernel
theorem dX2_paintPanel_30 : decode cX2_paintPanel 30 = .ok (.bipush (-5), 2) := by decide +kernel
theorem dX2_paintPanel_32 : decode cX2_paintPanel 32 = .ok (.ireturn, 1) := by decide +kernel
theorem dX2_paintPanel_33 : decode cX2_paintPanel 33 = .ok (.iconst 0, 1) := by decide +kernel
theorem dX2_paintPanel_34 : decode cX2_paintPanel 34 = .ok (.istore_n 3, 1) := by decide +kernel
theorem dX2_paintPanel_35 : decode cX2_paintPanel 35 = .ok (.iload_n 3, 1) := by decide +kernel
theorem dX2_paintPanel_36 : decode cX2_paintPanel 36 = .ok (.iconst 3, 1) := by decide +kernel
theorem dX2_paintPanel_37 : decode cX2_paintPanel 37 = .ok (.if_icmp .ge 28, 3) := by decide +kernel
theorem dX2_paintPanel_40 : decode cX2_paintPanel 40 = .ok (.aload_n 0, 1) := by decide +kernel
theorem dX2_paintPanel_41 : decode cX2_paintPanel 41 = .ok (.getfield 28, 3) := by decide +kernel
theorem dX2_paintPanel_44 : decode cX2_paintPanel 44 = .ok (.iload_n 1, 1) := by decide +kernel
theorem dX2_paintPanel_45 : decode cX2_paintPanel 45 = .ok (.iconst 3, 1) := by decide +kernel
theorem dX2_paintPanel_46 : decode cX2_paintPanel 46 = .ok (.imul, 1) := by decide +kernel
theorem dX2_paintPanel_47 : decode cX2_paintPanel 47 = .ok (.iload_n 3, 1) := by decide +kernel
theorem dX2_paintPanel_48 : decode cX2_paintPanel 48 = .ok (.iadd, 1) := by decide +kernel
theorem dX2_paintPanel_49 : decode cX2_paintPanel 49 = .ok (.aload_n 0, 1) := by decide +kernel
theorem dX2_paintPanel_50 : decode cX2_paintPanel 50 = .ok (.bipush 8, 2) := by decide +kernel
theorem dX2_paintPanel_52 : decode cX2_paintPanel 52 = .ok (.iload_n 3, 1) := by decide +kernel
theorem dX2_paintPanel_53 : decode cX2_paintPanel 53 = .ok (.invokevirtual 83, 3) := by decide +kernel
theorem dX2_paintPanel_56 : decode cX2_paintPanel 56 = .ok (.invokestatic 15, 3) := by decide +kernel
theorem dX2_paintPanel_59 : decode cX2_paintPanel 59 = .ok (.iinc 3 1, 3) := by decide +kernel
theorem dX2_paintPanel_62 : decode cX2_paintPanel 62 = .ok (.goto (-27), 3) := by decide +kernel
theorem dX2_paintPanel_65 : decode cX2_paintPanel 65 = .ok (.aload_n 0, 1) := by decide +kernel
theorem dX2_paintPanel_66 : decode cX2_paintPanel 66 = .ok (.bipush 8, 2) := by decide +kernel
theorem dX2_paintPanel_68 : decode cX2_paintPanel 68 = .ok (.iload_n 2, 1) := by decide +kernel
theorem dX2_paintPanel_69 : decode cX2_paintPanel 69 = .ok (.invokevirtual 87, 3) := by decide +kernel
theorem dX2_paintPanel_72 : decode cX2_paintPanel 72 = .ok (.aload_n 0, 1) := by decide +kernel
theorem dX2_paintPanel_73 : decode cX2_paintPanel 73 = .ok (.getfield 31, 3) := by decide +kernel
theorem dX2_paintPanel_76 : decode cX2_paintPanel 76 = .ok (.iload_n 1, 1) := by decide +kernel
theorem dX2_paintPanel_77 : decode cX2_paintPanel 77 = .ok (.iconst 1, 1) := by decide +kernel
theorem dX2_paintPanel_78 : decode cX2_paintPanel 78 = .ok (.invokestatic 73, 3) := by decide +kernel
theorem dX2_paintPanel_81 : decode cX2_paintPanel 81 = .ok (.aload_n 0, 1) := by decide +kernel
theorem dX2_paintPanel_82 : decode cX2_paintPanel 82 = .ok (.dup, 1) := by decide +kernel
theorem dX2_paintPanel_83 : decode cX2_paintPanel 83 = .ok (.getfield 38, 3) := by decide +kernel
theorem dX2_paintPanel_86 : decode cX2_paintPanel 86 = .ok (.iload_n 2, 1) := by decide +kernel
theorem dX2_paintPanel_87 : decode cX2_paintPanel 87 = .ok (.iadd, 1) := by decide +kernel
theorem dX2_paintPanel_88 : decode cX2_paintPanel 88 = .ok (.putfield 38, 3) := by decide +kernel
theorem dX2_paintPanel_91 : decode cX2_paintPanel 91 = .ok (.aload_n 0, 1) := by decide +kernel
theorem dX2_paintPanel_92 : decode cX2_paintPanel 92 = .ok (.iload_n 1, 1) := by decide +kernel
theorem dX2_paintPanel_93 : decode cX2_paintPanel 93 = .ok (.invokevirtual 91, 3) := by decide +kernel
theorem dX2_paintPanel_96 : decode cX2_paintPanel 96 = .ok (.ireturn, 1) := by decide +kernel
set_option maxRecDepth 20000 in
theorem ggX2_rinseBrush_X2_sink : GoodIn wsX2_rinseBrush wsX2_sink := goodIn_r _ [6, 7, 8, 9, 10, 11, 5, 12, 13, 14, 15, 16, 17, 18, 19, 20, 21, 22, 23, 24, 25, 26, 27] (by decide +kernel) (by decide +kernel)
set_option maxRecDepth 20000 in
theorem gX2_rinseBrush_X2_sink : GoodIn wsX2_rinseBrush (wsV RX2 80 RX2 yX2_sink wsX2_sink) := goodIn_app (goodIn_of _ (by decide +kernel)) ggX2_rinseBrush_X2_sink
theorem dX2_rinseBrush_0 : decode cX2_rinseBrush 0 = .ok (.aload_n 0, 1) := by decide +kernel
theorem dX2_rinseBrush_1 : decode cX2_rinseBrush 1 = .ok (.bipush 8, 2) := by decide +kernel
theorem dX2_rinseBrush_3 : decode cX2_rinseBrush 3 = .ok (.invokevirtual 80, 3) := by decide +kernel
theorem dX2_rinseBrush_6 : decode cX2_rinseBrush 6 = .ok (.istore_n 1, 1) := by decide +kernel
theorem dX2_rinseBrush_7 : decode cX2_rinseBrush 7 = .ok (.iload_n 1, 1) := by decide +kernel
theorem dX2_rinseBrush_8 : decode cX2_rinseBrush 8 = .ok (.ifCond .le 13, 3) := by decide +kernel
theorem dX2_rinseBrush_11 : decode cX2_rinseBrush 11 = .ok (.aload_n 0, 1) := by decide +kernel
theorem dX2_rinseBrush_12 : decode cX2_rinseBrush 12 = .ok (.dup, 1) := by decide +kernel
theorem dX2_rinseBrush_13 : decode cX2_rinseBrush 13 = .ok (.getfield 44, 3) := by decide +kernel
theorem dX2_rinseBrush_16 : decode cX2_rinseBrush 16 = .ok (.iconst 1, 1) := by decide +kernel
theorem dX2_rinseBrush_17 : decode cX2_rinseBrush 17 = .ok (.iadd, 1) := by decide +kernel
theorem dX2_rinseBrush_18 : decode cX2_rinseBrush 18 = .ok (.putfield 44, 3) := by decide +kernel
theorem dX2_rinseBrush_21 : decode cX2_rinseBrush 21 = .ok (.iload_n 1, 1) := by decide +kernel
theorem dX2_rinseBrush_22 : decode cX2_rinseBrush 22 = .ok (.ireturn, 1) := by decide +kernel
set_option maxRecDepth 20000 in
theorem ggX2_wantShade_X4_isWithin : GoodIn wsX2_wantShade wsX4_isWithin := goodIn_r _ [4] (by decide +kernel) (by decide +kernel)
set_option maxRecDepth 20000 in
theorem gX2_wantShade_X4_isWithin_n65 : GoodIn wsX2_wantShade (wsX4_isWithin) := ggX2_wantShade_X4_isWithin
set_option maxRecDepth 20000 in
theorem ggX2_wantShade_X2_isStrength : GoodIn wsX2_wantShade wsX2_isStrength := goodIn_r _ [8, 9, 3, 10] (by decide +kernel) (by decide +kernel)
set_option maxRecDepth 20000 in
theorem gX2_wantShade_X2_isStrength : GoodIn wsX2_wantShade (va_wsS RX2 94 yX2_isStrength wsX2_isStrength) := goodIn_app (goodIn_of _ (by decide +kernel)) ggX2_wantShade_X2_isStrength
set_option maxRecDepth 20000 in
theorem ggX2_wantShade_X4_write : GoodIn wsX2_wantShade wsX4_write := goodIn_r _ [12] (by decide +kernel) (by decide +kernel)
set_option maxRecDepth 20000 in
theorem gX2_wantShade_X4_write_n15 : GoodIn wsX2_wantShade (wsX4_write) := ggX2_wantShade_X4_write
set_option maxRecDepth 20000 in
theorem ggX2_wantShade_X2_panelsWell : GoodIn wsX2_wantShade wsX2_panelsWell := goodIn_r _ [16, 17, 18, 19, 7, 20, 21, 22, 23, 24, 25, 26, 27, 3, 28, 29, 30, 31, 32, 33, 34, 35, 36, 37, 1, 38, 39, 40, 41, 42, 43, 44, 45, 46, 47, 48, 49, 50, 51, 52, 53] (by decide +kernel) (by decide +kernel)
set_option maxRecDepth 20000 in
theorem gX2_wantShade_X2_panelsWell : GoodIn wsX2_wantShade (wsV RX2 98 RX2 yX2_panelsWell wsX2_panelsWell) := goodIn_app (goodIn_of _ (by decide +kernel)) ggX2_wantShade_X2_panelsWell
theorem dX2_wantShade_0 : decode cX2_wantShade 0 = .ok (.iload_n 1, 1) := by decide +kernel
theorem dX2_wantShade_1 : decode cX2_wantShade 1 = .ok (.bipush 6, 2) := by decide +kernel
theorem dX2_wantShade_3 : decode cX2_wantShade 3 = .ok (.invokestatic 65, 3) := by decide +kernel
theorem dX2_wantShade_6 : decode cX2_wantShade 6 = .ok (.ifCond .ne 5, 3) := by decide +kernel
theorem dX2_wantShade_9 : decode cX2_wantShade 9 = .ok (.iconst (-1), 1) := by decide +kernel
theorem dX2_wantShade_10 : decode cX2_wantShade 10 = .ok (.ireturn, 1) := by decide +kernel
theorem dX2_wantShade_11 : decode cX2_wantShade 11 = .ok (.iload_n 2, 1) := by decide +kernel
theorem dX2_wantShade_12 : decode cX2_wantShade 12 = .ok (.invokestatic 94, 3) := by decide +kernel
theorem dX2_wantShade_15 : decode cX2_wantShade 15 = .ok (.ifCond .eq 18, 3) := by decide +kernel
theorem dX2_wantShade_18 : decode cX2_wantShade 18 = .ok (.iload_n 3, 1) := by decide +kernel
theorem dX2_wantShade_19 : decode cX2_wantShade 19 = .ok (.invokestatic 94, 3) := by decide +kernel
theorem dX2_wantShade_22 : decode cX2_wantShade 22 = .ok (.ifCond .eq 11, 3) := by decide +kernel
theorem dX2_wantShade_25 : decode cX2_wantShade 25 = .ok (.iload 4, 2) := by decide +kernel
theorem dX2_wantShade_27 : decode cX2_wantShade 27 = .ok (.invokestatic 94, 3) := by decide +kernel
theorem dX2_wantShade_30 : decode cX2_wantShade 30 = .ok (.ifCond .ne 6, 3) := by decide +kernel
theorem dX2_wantShade_33 : decode cX2_wantShade 33 = .ok (.bipush (-2), 2) := by decide +kernel
theorem dX2_wantShade_35 : decode cX2_wantShade 35 = .ok (.ireturn, 1) := by decide +kernel
theorem dX2_wantShade_36 : decode cX2_wantShade 36 = .ok (.aload_n 0, 1) := by decide +kernel
theorem dX2_wantShade_37 : decode cX2_wantShade 37 = .ok (.getfield 25, 3) := by decide +kernel
theorem dX2_wantShade_40 : decode cX2_wantShade 40 = .ok (.iload_n 1, 1) := by decide +kernel
theorem dX2_wantShade_41 : decode cX2_wantShade 41 = .ok (.iconst 3, 1) := by decide +kernel
theorem dX2_wantShade_42 : decode cX2_wantShade 42 = .ok (.imul, 1) := by decide +kernel
theorem dX2_wantShade_43 : decode cX2_wantShade 43 = .ok (.iload_n 2, 1) := by decide +kernel
theorem dX2_wantShade_44 : decode cX2_wantShade 44 = .ok (.invokestatic 15, 3) := by decide +kernel
theorem dX2_wantShade_47 : decode cX2_wantShade 47 = .ok (.aload_n 0, 1) := by decide +kernel
theorem dX2_wantShade_48 : decode cX2_wantShade 48 = .ok (.getfield 25, 3) := by decide +kernel
theorem dX2_wantShade_51 : decode cX2_wantShade 51 = .ok (.iload_n 1, 1) := by decide +kernel
theorem dX2_wantShade_52 : decode cX2_wantShade 52 = .ok (.iconst 3, 1) := by decide +kernel
theorem dX2_wantShade_53 : decode cX2_wantShade 53 = .ok (.imul, 1) := by decide +kernel
theorem dX2_wantShade_54 : decode cX2_wantShade 54 = .ok (.iconst 1, 1) := by decide +kernel
theorem dX2_wantShade_55 : decode cX2_wantShade 55 = .ok (.iadd, 1) := by decide +kernel
theorem dX2_wantShade_56 : decode cX2_wantShade 56 = .ok (.iload_n 3, 1) := by decide +kernel
theorem dX2_wantShade_57 : decode cX2_wantShade 57 = .ok (.invokestatic 15, 3) := by decide +kernel
theorem dX2_wantShade_60 : decode cX2_wantShade 60 = .ok (.aload_n 0, 1) := by decide +kernel
theorem dX2_wantShade_61 : decode cX2_wantShade 61 = .ok (.getfield 25, 3) := by decide +kernel
theorem dX2_wantShade_64 : decode cX2_wantShade 64 = .ok (.iload_n 1, 1) := by decide +kernel
theorem dX2_wantShade_65 : decode cX2_wantShade 65 = .ok (.iconst 3, 1) := by decide +kernel
theorem dX2_wantShade_66 : decode cX2_wantShade 66 = .ok (.imul, 1) := by decide +kernel
theorem dX2_wantShade_67 : decode cX2_wantShade 67 = .ok (.iconst 2, 1) := by decide +kernel
theorem dX2_wantShade_68 : decode cX2_wantShade 68 = .ok (.iadd, 1) := by decide +kernel
theorem dX2_wantShade_69 : decode cX2_wantShade 69 = .ok (.iload 4, 2) := by decide +kernel
theorem dX2_wantShade_71 : decode cX2_wantShade 71 = .ok (.invokestatic 15, 3) := by decide +kernel
theorem dX2_wantShade_74 : decode cX2_wantShade 74 = .ok (.aload_n 0, 1) := by decide +kernel
theorem dX2_wantShade_75 : decode cX2_wantShade 75 = .ok (.invokevirtual 98, 3) := by decide +kernel
theorem dX2_wantShade_78 : decode cX2_wantShade 78 = .ok (.ireturn, 1) := by decide +kernel
set_option maxRecDepth 20000 in
theorem ggX2_aboutPaint_X4_isBetween : GoodIn wsX2_aboutPaint wsX4_isBetween := goodIn_r _ [3] (by decide +kernel) (by decide +kernel)
set_option maxRecDepth 20000 in
theorem gX2_aboutPaint_X4_isBetween_n57 : GoodIn wsX2_aboutPaint (wsX4_isBetween) := ggX2_aboutPaint_X4_isBetween
set_option maxRecDepth 20000 in
theorem ggX2_aboutPaint_X2_dropsOf : GoodIn wsX2_aboutPaint wsX2_dropsOf := goodIn_r _ [8, 9, 10, 2, 11, 26, 27, 28, 29, 30, 31, 32, 33, 34, 35, 36, 37] (by decide +kernel) (by decide +kernel)
set_option maxRecDepth 20000 in
theorem gX2_aboutPaint_X2_dropsOf : GoodIn wsX2_aboutPaint (wsV RX2 102 RX2 yX2_dropsOf wsX2_dropsOf) := goodIn_app (goodIn_of _ (by decide +kernel)) ggX2_aboutPaint_X2_dropsOf
set_option maxRecDepth 20000 in
theorem ggX2_aboutPaint_X2_allDrops : GoodIn wsX2_aboutPaint wsX2_allDrops := goodIn_r _ [15, 9, 26, 27, 28, 29, 30, 31, 32, 33, 34, 35, 36, 37] (by decide +kernel) (by decide +kernel)
set_option maxRecDepth 20000 in
theorem gX2_aboutPaint_X2_allDrops : GoodIn wsX2_aboutPaint (wsV RX2 69 RX2 yX2_allDrops wsX2_allDrops) := goodIn_app (goodIn_of _ (by decide +kernel)) ggX2_aboutPaint_X2_allDrops
set_option maxRecDepth 20000 in
theorem ggX2_aboutPaint_X2_hasPaint : GoodIn wsX2_aboutPaint wsX2_hasPaint := goodIn_r _ [19, 12, 13, 14, 7, 15, 9, 26, 27, 28, 29, 30, 31, 32, 33, 34, 35, 36, 37] (by decide +kernel) (by decide +kernel)
set_option maxRecDepth 20000 in
theorem gX2_aboutPaint_X2_hasPaint : GoodIn wsX2_aboutPaint (wsV RX2 105 RX2 yX2_hasPaint wsX2_hasPaint) := goodIn_app (goodIn_of _ (by decide +kernel)) ggX2_aboutPaint_X2_hasPaint
set_option maxRecDepth 20000 in
theorem ggX2_aboutPaint_X2_strength : GoodIn wsX2_aboutPaint wsX2_strength := goodIn_r _ [23, 9, 10, 2, 11, 12, 13, 14, 7, 15, 24, 25, 26, 27, 28, 29, 30, 31, 32, 33, 34, 35, 36, 37] (by decide +kernel) (by decide +kernel)
set_option maxRecDepth 20000 in
theorem gX2_aboutPaint_X2_strength : GoodIn wsX2_aboutPaint (wsV RX2 83 RX2 yX2_strength wsX2_strength) := goodIn_app (goodIn_of _ (by decide +kernel)) ggX2_aboutPaint_X2_strength
theorem dX2_aboutPaint_0 : decode cX2_aboutPaint 0 = .ok (.iload_n 2, 1) := by decide +kernel
theorem dX2_aboutPaint_1 : decode cX2_aboutPaint 1 = .ok (.iconst 0, 1) := by decide +kernel
theorem dX2_aboutPaint_2 : decode cX2_aboutPaint 2 = .ok (.bipush 7, 2) := by decide +kernel
theorem dX2_aboutPaint_4 : decode cX2_aboutPaint 4 = .ok (.invokestatic 57, 3) := by decide +kernel
theorem dX2_aboutPaint_7 : decode cX2_aboutPaint 7 = .ok (.ifCond .ne 6, 3) := by decide +kernel
theorem dX2_aboutPaint_10 : decode cX2_aboutPaint 10 = .ok (.bipush (-2), 2) := by decide +kernel
theorem dX2_aboutPaint_12 : decode cX2_aboutPaint 12 = .ok (.ireturn, 1) := by decide +kernel
theorem dX2_aboutPaint_13 : decode cX2_aboutPaint 13 = .ok (.iload_n 2, 1) := by decide +kernel
theorem dX2_aboutPaint_14 : decode cX2_aboutPaint 14 = .ok (.iconst 4, 1) := by decide +kernel
theorem dX2_aboutPaint_15 : decode cX2_aboutPaint 15 = .ok (.if_icmp .ge 10, 3) := by decide +kernel
theorem dX2_aboutPaint_18 : decode cX2_aboutPaint 18 = .ok (.aload_n 0, 1) := by decide +kernel
theorem dX2_aboutPaint_19 : decode cX2_aboutPaint 19 = .ok (.iload_n 1, 1) := by decide +kernel
theorem dX2_aboutPaint_20 : decode cX2_aboutPaint 20 = .ok (.iload_n 2, 1) := by decide +kernel
theorem dX2_aboutPaint_21 : decode cX2_aboutPaint 21 = .ok (.invokevirtual 102, 3) := by decide +kernel
theorem dX2_aboutPaint_24 : decode cX2_aboutPaint 24 = .ok (.ireturn, 1) := by decide +kernel
theorem dX2_aboutPaint_25 : decode cX2_aboutPaint 25 = .ok (.iload_n 2, 1) := by decide +kernel
theorem dX2_aboutPaint_26 : decode cX2_aboutPaint 26 = .ok (.iconst 4, 1) := by decide +kernel
theorem dX2_aboutPaint_27 : decode cX2_aboutPaint 27 = .ok (.if_icmp .ne 9, 3) := by decide +kernel
theorem dX2_aboutPaint_30 : decode cX2_aboutPaint 30 = .ok (.aload_n 0, 1) := by decide +kernel
theorem dX2_aboutPaint_31 : decode cX2_aboutPaint 31 = .ok (.iload_n 1, 1) := by decide +kernel
theorem dX2_aboutPaint_32 : decode cX2_aboutPaint 32 = .ok (.invokevirtual 69, 3) := by decide +kernel
theorem dX2_aboutPaint_35 : decode cX2_aboutPaint 35 = .ok (.ireturn, 1) := by decide +kernel
theorem dX2_aboutPaint_36 : decode cX2_aboutPaint 36 = .ok (.aload_n 0, 1) := by decide +kernel
theorem dX2_aboutPaint_37 : decode cX2_aboutPaint 37 = .ok (.iload_n 1, 1) := by decide +kernel
theorem dX2_aboutPaint_38 : decode cX2_aboutPaint 38 = .ok (.invokevirtual 105, 3) := by decide +kernel
theorem dX2_aboutPaint_41 : decode cX2_aboutPaint 41 = .ok (.ifCond .eq 14, 3) := by decide +kernel
theorem dX2_aboutPaint_44 : decode cX2_aboutPaint 44 = .ok (.aload_n 0, 1) := by decide +kernel
theorem dX2_aboutPaint_45 : decode cX2_aboutPaint 45 = .ok (.iload_n 1, 1) := by decide +kernel
theorem dX2_aboutPaint_46 : decode cX2_aboutPaint 46 = .ok (.iload_n 2, 1) := by decide +kernel
theorem dX2_aboutPaint_47 : decode cX2_aboutPaint 47 = .ok (.iconst 5, 1) := by decide +kernel
theorem dX2_aboutPaint_48 : decode cX2_aboutPaint 48 = .ok (.isub, 1) := by decide +kernel
theorem dX2_aboutPaint_49 : decode cX2_aboutPaint 49 = .ok (.invokevirtual 83, 3) := by decide +kernel
theorem dX2_aboutPaint_52 : decode cX2_aboutPaint 52 = .ok (.goto 5, 3) := by decide +kernel
theorem dX2_aboutPaint_55 : decode cX2_aboutPaint 55 = .ok (.bipush (-6), 2) := by decide +kernel
theorem dX2_aboutPaint_57 : decode cX2_aboutPaint 57 = .ok (.ireturn, 1) := by decide +kernel
set_option maxRecDepth 20000 in
theorem ggX2_timesThinned_X4_at : GoodIn wsX2_timesThinned wsX4_at := goodIn_r _ [4] (by decide +kernel) (by decide +kernel)
set_option maxRecDepth 20000 in
theorem gX2_timesThinned_X4_at_n61 : GoodIn wsX2_timesThinned (wsX4_at) := ggX2_timesThinned_X4_at
theorem dX2_timesThinned_0 : decode cX2_timesThinned 0 = .ok (.aload_n 0, 1) := by decide +kernel
theorem dX2_timesThinned_1 : decode cX2_timesThinned 1 = .ok (.getfield 22, 3) := by decide +kernel
theorem dX2_timesThinned_4 : decode cX2_timesThinned 4 = .ok (.iload_n 1, 1) := by decide +kernel
theorem dX2_timesThinned_5 : decode cX2_timesThinned 5 = .ok (.invokestatic 61, 3) := by decide +kernel
theorem dX2_timesThinned_8 : decode cX2_timesThinned 8 = .ok (.ireturn, 1) := by decide +kernel
set_option maxRecDepth 20000 in
theorem ggX2_aboutPanel_X4_isBetween : GoodIn wsX2_aboutPanel wsX4_isBetween := goodIn_r _ [6] (by decide +kernel) (by decide +kernel)
set_option maxRecDepth 20000 in
theorem gX2_aboutPanel_X4_isBetween_n57 : GoodIn wsX2_aboutPanel (wsX4_isBetween) := ggX2_aboutPanel_X4_isBetween
set_option maxRecDepth 20000 in
theorem ggX2_aboutPanel_X4_at : GoodIn wsX2_aboutPanel wsX4_at := goodIn_r _ [8] (by decide +kernel) (by decide +kernel)
set_option maxRecDepth 20000 in
theorem gX2_aboutPanel_X4_at_n61 : GoodIn wsX2_aboutPanel (wsX4_at) := ggX2_aboutPanel_X4_at
set_option maxRecDepth 20000 in
theorem ggX2_aboutPanel_X2_isWell : GoodIn wsX2_aboutPanel wsX2_isWell := goodIn_r _ [13, 14, 15, 16, 17, 12, 18, 2, 7, 5, 8, 19, 20, 21, 22, 3, 23, 24, 25, 26, 1, 27, 28, 29, 30, 31, 32, 33, 34, 35, 36, 37, 38, 39, 40, 41, 42] (by decide +kernel) (by decide +kernel)
set_option maxRecDepth 20000 in
theorem gX2_aboutPanel_X2_isWell : GoodIn wsX2_aboutPanel (wsV RX2 108 RX2 yX2_isWell wsX2_isWell) := goodIn_app (goodIn_of _ (by decide +kernel)) ggX2_aboutPanel_X2_isWell
set_option maxRecDepth 20000 in
theorem ggX2_aboutPanel_X2_isPainted : GoodIn wsX2_aboutPanel wsX2_isPainted := goodIn_r _ [18, 2, 7, 5, 8, 31, 32, 33, 34, 35, 36, 37, 38, 39, 40, 41, 42] (by decide +kernel) (by decide +kernel)
set_option maxRecDepth 20000 in
theorem gX2_aboutPanel_X2_isPainted : GoodIn wsX2_aboutPanel (wsV RX2 111 RX2 yX2_isPainted wsX2_isPainted) := goodIn_app (goodIn_of _ (by decide +kernel)) ggX2_aboutPanel_X2_isPainted
set_option maxRecDepth 20000 in
theorem ggX2_aboutPanel_X2_distanceOfPanel : GoodIn wsX2_aboutPanel wsX2_distanceOfPanel := goodIn_r _ [22, 3, 7, 5, 8, 23, 24, 25, 12, 26, 1, 27, 28, 29, 30, 31, 32, 33, 34, 35, 36, 37, 38, 39, 40, 41, 42] (by decide +kernel) (by decide +kernel)
set_option maxRecDepth 20000 in
theorem gX2_aboutPanel_X2_distanceOfPanel : GoodIn wsX2_aboutPanel (wsV RX2 91 RX2 yX2_distanceOfPanel wsX2_distanceOfPanel) := goodIn_app (goodIn_of _ (by decide +kernel)) ggX2_aboutPanel_X2_distanceOfPanel
theorem dX2_aboutPanel_0 : decode cX2_aboutPanel 0 = .ok (.iload_n 2, 1) := by decide +kernel
theorem dX2_aboutPanel_1 : decode cX2_aboutPanel 1 = .ok (.iconst 0, 1) := by decide +kernel
theorem dX2_aboutPanel_2 : decode cX2_aboutPanel 2 = .ok (.bipush 8, 2) := by decide +kernel
theorem dX2_aboutPanel_4 : decode cX2_aboutPanel 4 = .ok (.invokestatic 57, 3) := by decide +kernel
theorem dX2_aboutPanel_7 : decode cX2_aboutPanel 7 = .ok (.ifCond .ne 6, 3) := by decide +kernel
theorem dX2_aboutPanel_10 : decode cX2_aboutPanel 10 = .ok (.bipush (-2), 2) := by decide +kernel
theorem dX2_aboutPanel_12 : decode cX2_aboutPanel 12 = .ok (.ireturn, 1) := by decide +kernel
theorem dX2_aboutPanel_13 : decode cX2_aboutPanel 13 = .ok (.iload_n 2, 1) := by decide +kernel
theorem dX2_aboutPanel_14 : decode cX2_aboutPanel 14 = .ok (.iconst 3, 1) := by decide +kernel
theorem dX2_aboutPanel_15 : decode cX2_aboutPanel 15 = .ok (.if_icmp .ge 16, 3) := by decide +kernel
theorem dX2_aboutPanel_18 : decode cX2_aboutPanel 18 = .ok (.aload_n 0, 1) := by decide +kernel
theorem dX2_aboutPanel_19 : decode cX2_aboutPanel 19 = .ok (.getfield 25, 3) := by decide +kernel
theorem dX2_aboutPanel_22 : decode cX2_aboutPanel 22 = .ok (.iload_n 1, 1) := by decide +kernel
theorem dX2_aboutPanel_23 : decode cX2_aboutPanel 23 = .ok (.iconst 3, 1) := by decide +kernel
theorem dX2_aboutPanel_24 : decode cX2_aboutPanel 24 = .ok (.imul, 1) := by decide +kernel
theorem dX2_aboutPanel_25 : decode cX2_aboutPanel 25 = .ok (.iload_n 2, 1) := by decide +kernel
theorem dX2_aboutPanel_26 : decode cX2_aboutPanel 26 = .ok (.iadd, 1) := by decide +kernel
theorem dX2_aboutPanel_27 : decode cX2_aboutPanel 27 = .ok (.invokestatic 61, 3) := by decide +kernel
theorem dX2_aboutPanel_30 : decode cX2_aboutPanel 30 = .ok (.ireturn, 1) := by decide +kernel
theorem dX2_aboutPanel_31 : decode cX2_aboutPanel 31 = .ok (.iload_n 2, 1) := by decide +kernel
theorem dX2_aboutPanel_32 : decode cX2_aboutPanel 32 = .ok (.bipush 7, 2) := by decide +kernel
theorem dX2_aboutPanel_34 : decode cX2_aboutPanel 34 = .ok (.if_icmp .ne 17, 3) := by decide +kernel
theorem dX2_aboutPanel_37 : decode cX2_aboutPanel 37 = .ok (.aload_n 0, 1) := by decide +kernel
theorem dX2_aboutPanel_38 : decode cX2_aboutPanel 38 = .ok (.iload_n 1, 1) := by decide +kernel
theorem dX2_aboutPanel_39 : decode cX2_aboutPanel 39 = .ok (.invokevirtual 108, 3) := by decide +kernel
theorem dX2_aboutPanel_42 : decode cX2_aboutPanel 42 = .ok (.ifCond .eq 7, 3) := by decide +kernel
theorem dX2_aboutPanel_45 : decode cX2_aboutPanel 45 = .ok (.iconst 1, 1) := by decide +kernel
theorem dX2_aboutPanel_46 : decode cX2_aboutPanel 46 = .ok (.goto 4, 3) := by decide +kernel
theorem dX2_aboutPanel_49 : decode cX2_aboutPanel 49 = .ok (.iconst 0, 1) := by decide +kernel
theorem dX2_aboutPanel_50 : decode cX2_aboutPanel 50 = .ok (.ireturn, 1) := by decide +kernel
theorem dX2_aboutPanel_51 : decode cX2_aboutPanel 51 = .ok (.iload_n 2, 1) := by decide +kernel
theorem dX2_aboutPanel_52 : decode cX2_aboutPanel 52 = .ok (.bipush 8, 2) := by decide +kernel
theorem dX2_aboutPanel_54 : decode cX2_aboutPanel 54 = .ok (.if_icmp .ne 12, 3) := by decide +kernel
theorem dX2_aboutPanel_57 : decode cX2_aboutPanel 57 = .ok (.aload_n 0, 1) := by decide +kernel
theorem dX2_aboutPanel_58 : decode cX2_aboutPanel 58 = .ok (.getfield 31, 3) := by decide +kernel
theorem dX2_aboutPanel_61 : decode cX2_aboutPanel 61 = .ok (.iload_n 1, 1) := by decide +kernel
theorem dX2_aboutPanel_62 : decode cX2_aboutPanel 62 = .ok (.invokestatic 61, 3) := by decide +kernel
theorem dX2_aboutPanel_65 : decode cX2_aboutPanel 65 = .ok (.ireturn, 1) := by decide +kernel
theorem dX2_aboutPanel_66 : decode cX2_aboutPanel 66 = .ok (.aload_n 0, 1) := by decide +kernel
theorem dX2_aboutPanel_67 : decode cX2_aboutPanel 67 = .ok (.iload_n 1, 1) := by decide +kernel
theorem dX2_aboutPanel_68 : decode cX2_aboutPanel 68 = .ok (.invokevirtual 111, 3) := by decide +kernel
theorem dX2_aboutPanel_71 : decode cX2_aboutPanel 71 = .ok (.ifCond .ne 6, 3) := by decide +kernel
theorem dX2_aboutPanel_74 : decode cX2_aboutPanel 74 = .ok (.bipush (-6), 2) := by decide +kernel
theorem dX2_aboutPanel_76 : decode cX2_aboutPanel 76 = .ok (.ireturn, 1) := by decide +kernel
theorem dX2_aboutPanel_77 : decode cX2_aboutPanel 77 = .ok (.iload_n 2, 1) := by decide +kernel
theorem dX2_aboutPanel_78 : decode cX2_aboutPanel 78 = .ok (.bipush 6, 2) := by decide +kernel
theorem dX2_aboutPanel_80 : decode cX2_aboutPanel 80 = .ok (.if_icmp .ne 11, 3) := by decide +kernel
theorem dX2_aboutPanel_83 : decode cX2_aboutPanel 83 = .ok (.aload_n 0, 1) := by decide +kernel
theorem dX2_aboutPanel_84 : decode cX2_aboutPanel 84 = .ok (.iload_n 1, 1) := by decide +kernel
theorem dX2_aboutPanel_85 : decode cX2_aboutPanel 85 = .ok (.invokevirtual 91, 3) := by decide +kernel
theorem dX2_aboutPanel_88 : decode cX2_aboutPanel 88 = .ok (.goto 17, 3) := by decide +kernel
theorem dX2_aboutPanel_91 : decode cX2_aboutPanel 91 = .ok (.aload_n 0, 1) := by decide +kernel
theorem dX2_aboutPanel_92 : decode cX2_aboutPanel 92 = .ok (.getfield 28, 3) := by decide +kernel
theorem dX2_aboutPanel_95 : decode cX2_aboutPanel 95 = .ok (.iload_n 1, 1) := by decide +kernel
theorem dX2_aboutPanel_96 : decode cX2_aboutPanel 96 = .ok (.iconst 3, 1) := by decide +kernel
theorem dX2_aboutPanel_97 : decode cX2_aboutPanel 97 = .ok (.imul, 1) := by decide +kernel
theorem dX2_aboutPanel_98 : decode cX2_aboutPanel 98 = .ok (.iload_n 2, 1) := by decide +kernel
theorem dX2_aboutPanel_99 : decode cX2_aboutPanel 99 = .ok (.iadd, 1) := by decide +kernel
theorem dX2_aboutPanel_100 : decode cX2_aboutPanel 100 = .ok (.iconst 3, 1) := by decide +kernel
theorem dX2_aboutPanel_101 : decode cX2_aboutPanel 101 = .ok (.isub, 1) := by decide +kernel
theorem dX2_aboutPanel_102 : decode cX2_aboutPanel 102 = .ok (.invokestatic 61, 3) := by decide +kernel
theorem dX2_aboutPanel_105 : decode cX2_aboutPanel 105 = .ok (.ireturn, 1) := by decide +kernel
set_option maxRecDepth 20000 in
theorem ggX2_account_X4_at : GoodIn wsX2_account wsX4_at := goodIn_r _ [8] (by decide +kernel) (by decide +kernel)
set_option maxRecDepth 20000 in
theorem gX2_account_X4_at_n61 : GoodIn wsX2_account (wsX4_at) := ggX2_account_X4_at
set_option maxRecDepth 20000 in
theorem ggX2_account_X2_dropsInPots : GoodIn wsX2_account wsX2_dropsInPots := goodIn_r _ [13, 14, 15, 16, 12, 17, 18, 54, 55, 56, 57, 58, 59, 60, 61, 62, 63, 64, 65] (by decide +kernel) (by decide +kernel)
set_option maxRecDepth 20000 in
theorem gX2_account_X2_dropsInPots : GoodIn wsX2_account (wsV RX2 114 RX2 yX2_dropsInPots wsX2_dropsInPots) := goodIn_app (goodIn_of _ (by decide +kernel)) ggX2_account_X2_dropsInPots
set_option maxRecDepth 20000 in
theorem ggX2_account_X2_panelsPainted : GoodIn wsX2_account wsX2_panelsPainted := goodIn_r _ [22, 23, 24, 25, 12, 26, 27, 6, 7, 8, 54, 55, 56, 57, 58, 59, 60, 61, 62, 63, 64, 65] (by decide +kernel) (by decide +kernel)
set_option maxRecDepth 20000 in
theorem gX2_account_X2_panelsPainted : GoodIn wsX2_account (wsV RX2 117 RX2 yX2_panelsPainted wsX2_panelsPainted) := goodIn_app (goodIn_of _ (by decide +kernel)) ggX2_account_X2_panelsPainted
set_option maxRecDepth 20000 in
theorem ggX2_account_X2_panelsWell : GoodIn wsX2_account wsX2_panelsWell := goodIn_r _ [31, 32, 33, 34, 12, 35, 1, 23, 24, 25, 26, 27, 6, 7, 8, 36, 37, 38, 39, 40, 41, 42, 43, 44, 45, 46, 47, 48, 49, 54, 55, 56, 57, 58, 59, 60, 61, 62, 63, 64, 65] (by decide +kernel) (by decide +kernel)
set_option maxRecDepth 20000 in
theorem gX2_account_X2_panelsWell : GoodIn wsX2_account (wsV RX2 98 RX2 yX2_panelsWell wsX2_panelsWell) := goodIn_app (goodIn_of _ (by decide +kernel)) ggX2_account_X2_panelsWell
set_option maxRecDepth 20000 in
theorem ggX2_account_X2_allStrokes : GoodIn wsX2_account wsX2_allStrokes := goodIn_r _ [53, 27, 6, 7, 8, 54, 55, 56, 57, 58, 59, 60, 61, 62, 63, 64, 65] (by decide +kernel) (by decide +kernel)
set_option maxRecDepth 20000 in
theorem gX2_account_X2_allStrokes : GoodIn wsX2_account (wsV RX2 120 RX2 yX2_allStrokes wsX2_allStrokes) := goodIn_app (goodIn_of _ (by decide +kernel)) ggX2_account_X2_allStrokes
theorem dX2_account_0 : decode cX2_account 0 = .ok (.iload_n 1, 1) := by decide +kernel
theorem dX2_account_1 : decode cX2_account 1 = .ok (.tableswitch 113 0 9 #[55, 64, 73, 78, 83, 88, 93, 98, 103, 108], 55) := by decide +kernel
theorem dX2_account_56 : decode cX2_account 56 = .ok (.aload_n 0, 1) := by decide +kernel
theorem dX2_account_57 : decode cX2_account 57 = .ok (.getfield 9, 3) := by decide +kernel
theorem dX2_account_60 : decode cX2_account 60 = .ok (.iconst 0, 1) := by decide +kernel
theorem dX2_account_61 : decode cX2_account 61 = .ok (.invokestatic 61, 3) := by decide +kernel
theorem dX2_account_64 : decode cX2_account 64 = .ok (.ireturn, 1) := by decide +kernel
theorem dX2_account_65 : decode cX2_account 65 = .ok (.aload_n 0, 1) := by decide +kernel
theorem dX2_account_66 : decode cX2_account 66 = .ok (.getfield 9, 3) := by decide +kernel
theorem dX2_account_69 : decode cX2_account 69 = .ok (.iconst 1, 1) := by decide +kernel
theorem dX2_account_70 : decode cX2_account 70 = .ok (.invokestatic 61, 3) := by decide +kernel
theorem dX2_account_73 : decode cX2_account 73 = .ok (.ireturn, 1) := by decide +kernel
theorem dX2_account_74 : decode cX2_account 74 = .ok (.aload_n 0, 1) := by decide +kernel
theorem dX2_account_75 : decode cX2_account 75 = .ok (.getfield 34, 3) := by decide +kernel
theorem dX2_account_78 : decode cX2_account 78 = .ok (.ireturn, 1) := by decide +kernel
theorem dX2_account_79 : decode cX2_account 79 = .ok (.aload_n 0, 1) := by decide +kernel
theorem dX2_account_80 : decode cX2_account 80 = .ok (.invokevirtual 114, 3) := by decide +kernel
theorem dX2_account_83 : decode cX2_account 83 = .ok (.ireturn, 1) := by decide +kernel
theorem dX2_account_84 : decode cX2_account 84 = .ok (.aload_n 0, 1) := by decide +kernel
theorem dX2_account_85 : decode cX2_account 85 = .ok (.getfield 38, 3) := by decide +kernel
theorem dX2_account_88 : decode cX2_account 88 = .ok (.ireturn, 1) := by decide +kernel
theorem dX2_account_89 : decode cX2_account 89 = .ok (.aload_n 0, 1) := by decide +kernel
theorem dX2_account_90 : decode cX2_account 90 = .ok (.getfield 41, 3) := by decide +kernel
theorem dX2_account_93 : decode cX2_account 93 = .ok (.ireturn, 1) := by decide +kernel
theorem dX2_account_94 : decode cX2_account 94 = .ok (.aload_n 0, 1) := by decide +kernel
theorem dX2_account_95 : decode cX2_account 95 = .ok (.invokevirtual 117, 3) := by decide +kernel
theorem dX2_account_98 : decode cX2_account 98 = .ok (.ireturn, 1) := by decide +kernel
theorem dX2_account_99 : decode cX2_account 99 = .ok (.aload_n 0, 1) := by decide +kernel
theorem dX2_account_100 : decode cX2_account 100 = .ok (.invokevirtual 98, 3) := by decide +kernel
theorem dX2_account_103 : decode cX2_account 103 = .ok (.ireturn, 1) := by decide +kernel
theorem dX2_account_104 : decode cX2_account 104 = .ok (.aload_n 0, 1) := by decide +kernel
theorem dX2_account_105 : decode cX2_account 105 = .ok (.invokevirtual 120, 3) := by decide +kernel
theorem dX2_account_108 : decode cX2_account 108 = .ok (.ireturn, 1) := by decide +kernel
theorem dX2_account_109 : decode cX2_account 109 = .ok (.aload_n 0, 1) := by decide +kernel
theorem dX2_account_110 : decode cX2_account 110 = .ok (.getfield 44, 3) := by decide +kernel
theorem dX2_account_113 : decode cX2_account 113 = .ok (.ireturn, 1) := by decide +kernel
theorem dX2_account_114 : decode cX2_account 114 = .ok (.bipush (-2), 2) := by decide +kernel
theorem dX2_account_116 : decode cX2_account 116 = .ok (.ireturn, 1) := by decide +kernel
set_option maxRecDepth 20000 in
theorem ggX2_dropsInPots_X2_allDrops : GoodIn wsX2_dropsInPots wsX2_allDrops := goodIn_r _ [5, 6, 7, 8, 9, 10, 11, 12, 13, 14, 15, 16, 17, 18] (by decide +kernel) (by decide +kernel)
set_option maxRecDepth 20000 in
theorem gX2_dropsInPots_X2_allDrops : GoodIn wsX2_dropsInPots (wsV RX2 69 RX2 yX2_allDrops wsX2_allDrops) := goodIn_app (goodIn_of _ (by decide +kernel)) ggX2_dropsInPots_X2_allDrops
theorem dX2_dropsInPots_0 : decode cX2_dropsInPots 0 = .ok (.iconst 0, 1) := by decide +kernel
theorem dX2_dropsInPots_1 : decode cX2_dropsInPots 1 = .ok (.istore_n 1, 1) := by decide +kernel
theorem dX2_dropsInPots_2 : decode cX2_dropsInPots 2 = .ok (.iconst 0, 1) := by decide +kernel
theorem dX2_dropsInPots_3 : decode cX2_dropsInPots 3 = .ok (.istore_n 2, 1) := by decide +kernel
theorem dX2_dropsInPots_4 : decode cX2_dropsInPots 4 = .ok (.iload_n 2, 1) := by decide +kernel
theorem dX2_dropsInPots_5 : decode cX2_dropsInPots 5 = .ok (.bipush 8, 2) := by decide +kernel
theorem dX2_dropsInPots_7 : decode cX2_dropsInPots 7 = .ok (.if_icmp .ge 17, 3) := by decide +kernel
theorem dX2_dropsInPots_10 : decode cX2_dropsInPots 10 = .ok (.iload_n 1, 1) := by decide +kernel
theorem dX2_dropsInPots_11 : decode cX2_dropsInPots 11 = .ok (.aload_n 0, 1) := by decide +kernel
theorem dX2_dropsInPots_12 : decode cX2_dropsInPots 12 = .ok (.iload_n 2, 1) := by decide +kernel
theorem dX2_dropsInPots_13 : decode cX2_dropsInPots 13 = .ok (.invokevirtual 69, 3) := by decide +kernel
theorem dX2_dropsInPots_16 : decode cX2_dropsInPots 16 = .ok (.iadd, 1) := by decide +kernel
theorem dX2_dropsInPots_17 : decode cX2_dropsInPots 17 = .ok (.istore_n 1, 1) := by decide +kernel
theorem dX2_dropsInPots_18 : decode cX2_dropsInPots 18 = .ok (.iinc 2 1, 3) := by decide +kernel
theorem dX2_dropsInPots_21 : decode cX2_dropsInPots 21 = .ok (.goto (-17), 3) := by decide +kernel
theorem dX2_dropsInPots_24 : decode cX2_dropsInPots 24 = .ok (.iload_n 1, 1) := by decide +kernel
theorem dX2_dropsInPots_25 : decode cX2_dropsInPots 25 = .ok (.ireturn, 1) := by decide +kernel
set_option maxRecDepth 20000 in
theorem ggX2_dropsOf_X4_at : GoodIn wsX2_dropsOf wsX4_at := goodIn_r _ [4] (by decide +kernel) (by decide +kernel)
set_option maxRecDepth 20000 in
theorem gX2_dropsOf_X4_at_n61 : GoodIn wsX2_dropsOf (wsX4_at) := ggX2_dropsOf_X4_at
theorem dX2_dropsOf_0 : decode cX2_dropsOf 0 = .ok (.aload_n 0, 1) := by decide +kernel
theorem dX2_dropsOf_1 : decode cX2_dropsOf 1 = .ok (.getfield 19, 3) := by decide +kernel
theorem dX2_dropsOf_4 : decode cX2_dropsOf 4 = .ok (.iload_n 1, 1) := by decide +kernel
theorem dX2_dropsOf_5 : decode cX2_dropsOf 5 = .ok (.iconst 4, 1) := by decide +kernel
theorem dX2_dropsOf_6 : decode cX2_dropsOf 6 = .ok (.imul, 1) := by decide +kernel
theorem dX2_dropsOf_7 : decode cX2_dropsOf 7 = .ok (.iload_n 2, 1) := by decide +kernel
theorem dX2_dropsOf_8 : decode cX2_dropsOf 8 = .ok (.iadd, 1) := by decide +kernel
theorem dX2_dropsOf_9 : decode cX2_dropsOf 9 = .ok (.invokestatic 61, 3) := by decide +kernel
theorem dX2_dropsOf_12 : decode cX2_dropsOf 12 = .ok (.ireturn, 1) := by decide +kernel
theorem dX2_allDrops_0 : decode cX2_allDrops 0 = .ok (.iload_n 1, 1) := by decide +kernel
theorem dX2_allDrops_1 : decode cX2_allDrops 1 = .ok (.iconst 4, 1) := by decide +kernel
theorem dX2_allDrops_2 : decode cX2_allDrops 2 = .ok (.imul, 1) := by decide +kernel
theorem dX2_allDrops_3 : decode cX2_allDrops 3 = .ok (.istore_n 2, 1) := by decide +kernel
theorem dX2_allDrops_4 : decode cX2_allDrops 4 = .ok (.iload_n 2, 1) := by decide +kernel
theorem dX2_allDrops_5 : decode cX2_allDrops 5 = .ok (.ifCond .lt 14, 3) := by decide +kernel
theorem dX2_allDrops_8 : decode cX2_allDrops 8 = .ok (.iload_n 2, 1) := by decide +kernel
theorem dX2_allDrops_9 : decode cX2_allDrops 9 = .ok (.aload_n 0, 1) := by decide +kernel
theorem dX2_allDrops_10 : decode cX2_allDrops 10 = .ok (.getfield 19, 3) := by decide +kernel
theorem dX2_allDrops_13 : decode cX2_allDrops 13 = .ok (.arraylength, 1) := by decide +kernel
theorem dX2_allDrops_14 : decode cX2_allDrops 14 = .ok (.iconst 4, 1) := by decide +kernel
theorem dX2_allDrops_15 : decode cX2_allDrops 15 = .ok (.isub, 1) := by decide +kernel
theorem dX2_allDrops_16 : decode cX2_allDrops 16 = .ok (.if_icmp .le 5, 3) := by decide +kernel
theorem dX2_allDrops_19 : decode cX2_allDrops 19 = .ok (.iconst 0, 1) := by decide +kernel
theorem dX2_allDrops_20 : decode cX2_allDrops 20 = .ok (.ireturn, 1) := by decide +kernel
theorem dX2_allDrops_21 : decode cX2_allDrops 21 = .ok (.aload_n 0, 1) := by decide +kernel
theorem dX2_allDrops_22 : decode cX2_allDrops 22 = .ok (.getfield 19, 3) := by decide +kernel
theorem dX2_allDrops_25 : decode cX2_allDrops 25 = .ok (.iload_n 2, 1) := by decide +kernel
theorem dX2_allDrops_26 : decode cX2_allDrops 26 = .ok (.iaload, 1) := by decide +kernel
theorem dX2_allDrops_27 : decode cX2_allDrops 27 = .ok (.aload_n 0, 1) := by decide +kernel
theorem dX2_allDrops_28 : decode cX2_allDrops 28 = .ok (.getfield 19, 3) := by decide +kernel
theorem dX2_allDrops_31 : decode cX2_allDrops 31 = .ok (.iload_n 2, 1) := by decide +kernel
theorem dX2_allDrops_32 : decode cX2_allDrops 32 = .ok (.iconst 1, 1) := by decide +kernel
theorem dX2_allDrops_33 : decode cX2_allDrops 33 = .ok (.iadd, 1) := by decide +kernel
theorem dX2_allDrops_34 : decode cX2_allDrops 34 = .ok (.iaload, 1) := by decide +kernel
theorem dX2_allDrops_35 : decode cX2_allDrops 35 = .ok (.iadd, 1) := by decide +kernel
theorem dX2_allDrops_36 : decode cX2_allDrops 36 = .ok (.aload_n 0, 1) := by decide +kernel
theorem dX2_allDrops_37 : decode cX2_allDrops 37 = .ok (.getfield 19, 3) := by decide +kernel
theorem dX2_allDrops_40 : decode cX2_allDrops 40 = .ok (.iload_n 2, 1) := by decide +kernel
theorem dX2_allDrops_41 : decode cX2_allDrops 41 = .ok (.iconst 2, 1) := by decide +kernel
theorem dX2_allDrops_42 : decode cX2_allDrops 42 = .ok (.iadd, 1) := by decide +kernel
theorem dX2_allDrops_43 : decode cX2_allDrops 43 = .ok (.iaload, 1) := by decide +kernel
theorem dX2_allDrops_44 : decode cX2_allDrops 44 = .ok (.iadd, 1) := by decide +kernel
theorem dX2_allDrops_45 : decode cX2_allDrops 45 = .ok (.aload_n 0, 1) := by decide +kernel
theorem dX2_allDrops_46 : decode cX2_allDrops 46 = .ok (.getfield 19, 3) := by decide +kernel
theorem dX2_allDrops_49 : decode cX2_allDrops 49 = .ok (.iload_n 2, 1) := by decide +kernel
theorem dX2_allDrops_50 : decode cX2_allDrops 50 = .ok (.iconst 3, 1) := by decide +kernel
theorem dX2_allDrops_51 : decode cX2_allDrops 51 = .ok (.iadd, 1) := by decide +kernel
theorem dX2_allDrops_52 : decode cX2_allDrops 52 = .ok (.iaload, 1) := by decide +kernel
theorem dX2_allDrops_53 : decode cX2_allDrops 53 = .ok (.iadd, 1) := by decide +kernel
theorem dX2_allDrops_54 : decode cX2_allDrops 54 = .ok (.ireturn, 1) := by decide +kernel
set_option maxRecDepth 20000 in
theorem ggX2_hasPaint_X2_allDrops : GoodIn wsX2_hasPaint wsX2_allDrops := goodIn_r _ [5, 6, 7, 8, 9, 10, 11, 12, 13, 14, 15, 16, 17, 18] (by decide +kernel) (by decide +kernel)
set_option maxRecDepth 20000 in
theorem gX2_hasPaint_X2_allDrops : GoodIn wsX2_hasPaint (wsV RX2 69 RX2 yX2_allDrops wsX2_allDrops) := goodIn_app (goodIn_of _ (by decide +kernel)) ggX2_hasPaint_X2_allDrops
theorem dX2_hasPaint_0 : decode cX2_hasPaint 0 = .ok (.aload_n 0, 1) := by decide +kernel
theorem dX2_hasPaint_1 : decode cX2_hasPaint 1 = .ok (.iload_n 1, 1) := by decide +kernel
theorem dX2_hasPaint_2 : decode cX2_hasPaint 2 = .ok (.invokevirtual 69, 3) := by decide +kernel
theorem dX2_hasPaint_5 : decode cX2_hasPaint 5 = .ok (.ifCond .le 7, 3) := by decide +kernel
theorem dX2_hasPaint_8 : decode cX2_hasPaint 8 = .ok (.iconst 1, 1) := by decide +kernel
theorem dX2_hasPaint_9 : decode cX2_hasPaint 9 = .ok (.goto 4, 3) := by decide +kernel
theorem dX2_hasPaint_12 : decode cX2_hasPaint 12 = .ok (.iconst 0, 1) := by decide +kernel
theorem dX2_hasPaint_13 : decode cX2_hasPaint 13 = .ok (.ireturn, 1) := by decide +kernel
set_option maxRecDepth 20000 in
theorem ggX2_distanceOfPaint_X2_strength : GoodIn wsX2_distanceOfPaint wsX2_strength := goodIn_r _ [5, 6, 7, 8, 9, 10, 11, 12, 4, 13, 14, 15, 25, 26, 27, 28, 29, 30, 31, 32, 33, 34, 35, 36] (by decide +kernel) (by decide +kernel)
set_option maxRecDepth 20000 in
theorem gX2_distanceOfPaint_X2_strength : GoodIn wsX2_distanceOfPaint (wsV RX2 83 RX2 yX2_strength wsX2_strength) := goodIn_app (goodIn_of _ (by decide +kernel)) ggX2_distanceOfPaint_X2_strength
set_option maxRecDepth 20000 in
theorem ggX2_distanceOfPaint_X2_distance : GoodIn wsX2_distanceOfPaint wsX2_distance := goodIn_r _ [19, 20, 21, 22, 23, 24, 7, 8, 9, 25, 26, 27, 28, 29, 30, 31, 32, 33, 34, 35, 36] (by decide +kernel) (by decide +kernel)
set_option maxRecDepth 20000 in
theorem gX2_distanceOfPaint_X2_distance : GoodIn wsX2_distanceOfPaint (wsV RX2 123 RX2 yX2_distance wsX2_distance) := goodIn_app (goodIn_of _ (by decide +kernel)) ggX2_distanceOfPaint_X2_distance
theorem dX2_distanceOfPaint_0 : decode cX2_distanceOfPaint 0 = .ok (.aload_n 0, 1) := by decide +kernel
theorem dX2_distanceOfPaint_1 : decode cX2_distanceOfPaint 1 = .ok (.iload_n 1, 1) := by decide +kernel
theorem dX2_distanceOfPaint_2 : decode cX2_distanceOfPaint 2 = .ok (.aload_n 0, 1) := by decide +kernel
theorem dX2_distanceOfPaint_3 : decode cX2_distanceOfPaint 3 = .ok (.iload_n 2, 1) := by decide +kernel
theorem dX2_distanceOfPaint_4 : decode cX2_distanceOfPaint 4 = .ok (.iconst 0, 1) := by decide +kernel
theorem dX2_distanceOfPaint_5 : decode cX2_distanceOfPaint 5 = .ok (.invokevirtual 83, 3) := by decide +kernel
theorem dX2_distanceOfPaint_8 : decode cX2_distanceOfPaint 8 = .ok (.aload_n 0, 1) := by decide +kernel
theorem dX2_distanceOfPaint_9 : decode cX2_distanceOfPaint 9 = .ok (.iload_n 2, 1) := by decide +kernel
theorem dX2_distanceOfPaint_10 : decode cX2_distanceOfPaint 10 = .ok (.iconst 1, 1) := by decide +kernel
theorem dX2_distanceOfPaint_11 : decode cX2_distanceOfPaint 11 = .ok (.invokevirtual 83, 3) := by decide +kernel
theorem dX2_distanceOfPaint_14 : decode cX2_distanceOfPaint 14 = .ok (.aload_n 0, 1) := by decide +kernel
theorem dX2_distanceOfPaint_15 : decode cX2_distanceOfPaint 15 = .ok (.iload_n 2, 1) := by decide +kernel
theorem dX2_distanceOfPaint_16 : decode cX2_distanceOfPaint 16 = .ok (.iconst 2, 1) := by decide +kernel
theorem dX2_distanceOfPaint_17 : decode cX2_distanceOfPaint 17 = .ok (.invokevirtual 83, 3) := by decide +kernel
theorem dX2_distanceOfPaint_20 : decode cX2_distanceOfPaint 20 = .ok (.invokevirtual 123, 3) := by decide +kernel
theorem dX2_distanceOfPaint_23 : decode cX2_distanceOfPaint 23 = .ok (.ireturn, 1) := by decide +kernel
set_option maxRecDepth 20000 in
theorem ggX2_distance_X4_at : GoodIn wsX2_distance wsX4_at := goodIn_r _ [8] (by decide +kernel) (by decide +kernel)
set_option maxRecDepth 20000 in
theorem gX2_distance_X4_at_n61 : GoodIn wsX2_distance (wsX4_at) := ggX2_distance_X4_at
theorem dX2_distance_0 : decode cX2_distance 0 = .ok (.iload_n 1, 1) := by decide +kernel
theorem dX2_distance_1 : decode cX2_distance 1 = .ok (.iconst 3, 1) := by decide +kernel
theorem dX2_distance_2 : decode cX2_distance 2 = .ok (.imul, 1) := by decide +kernel
theorem dX2_distance_3 : decode cX2_distance 3 = .ok (.istore 5, 2) := by decide +kernel
theorem dX2_distance_5 : decode cX2_distance 5 = .ok (.iload_n 2, 1) := by decide +kernel
theorem dX2_distance_6 : decode cX2_distance 6 = .ok (.aload_n 0, 1) := by decide +kernel
theorem dX2_distance_7 : decode cX2_distance 7 = .ok (.getfield 25, 3) := by decide +kernel
theorem dX2_distance_10 : decode cX2_distance 10 = .ok (.iload 5, 2) := by decide +kernel
theorem dX2_distance_12 : decode cX2_distance 12 = .ok (.invokestatic 61, 3) := by decide +kernel
theorem dX2_distance_15 : decode cX2_distance 15 = .ok (.isub, 1) := by decide +kernel
theorem dX2_distance_16 : decode cX2_distance 16 = .ok (.invokestatic 126, 3) := by decide +kernel
theorem dX2_distance_19 : decode cX2_distance 19 = .ok (.iload_n 3, 1) := by decide +kernel
theorem dX2_distance_20 : decode cX2_distance 20 = .ok (.aload_n 0, 1) := by decide +kernel
theorem dX2_distance_21 : decode cX2_distance 21 = .ok (.getfield 25, 3) := by decide +kernel
theorem dX2_distance_24 : decode cX2_distance 24 = .ok (.iload 5, 2) := by decide +kernel
theorem dX2_distance_26 : decode cX2_distance 26 = .ok (.iconst 1, 1) := by decide +kernel
theorem dX2_distance_27 : decode cX2_distance 27 = .ok (.iadd, 1) := by decide +kernel
theorem dX2_distance_28 : decode cX2_distance 28 = .ok (.invokestatic 61, 3) := by decide +kernel
theorem dX2_distance_31 : decode cX2_distance 31 = .ok (.isub, 1) := by decide +kernel
theorem dX2_distance_32 : decode cX2_distance 32 = .ok (.invokestatic 126, 3) := by decide +kernel
theorem dX2_distance_35 : decode cX2_distance 35 = .ok (.iadd, 1) := by decide +kernel
theorem dX2_distance_36 : decode cX2_distance 36 = .ok (.iload 4, 2) := by decide +kernel
theorem dX2_distance_38 : decode cX2_distance 38 = .ok (.aload_n 0, 1) := by decide +kernel
theorem dX2_distance_39 : decode cX2_distance 39 = .ok (.getfield 25, 3) := by decide +kernel
theorem dX2_distance_42 : decode cX2_distance 42 = .ok (.iload 5, 2) := by decide +kernel
theorem dX2_distance_44 : decode cX2_distance 44 = .ok (.iconst 2, 1) := by decide +kernel
theorem dX2_distance_45 : decode cX2_distance 45 = .ok (.iadd, 1) := by decide +kernel
theorem dX2_distance_46 : decode cX2_distance 46 = .ok (.invokestatic 61, 3) := by decide +kernel
theorem dX2_distance_49 : decode cX2_distance 49 = .ok (.isub, 1) := by decide +kernel
theorem dX2_distance_50 : decode cX2_distance 50 = .ok (.invokestatic 126, 3) := by decide +kernel
theorem dX2_distance_53 : decode cX2_distance 53 = .ok (.iadd, 1) := by decide +kernel
theorem dX2_distance_54 : decode cX2_distance 54 = .ok (.ireturn, 1) := by decide +kernel
set_option maxRecDepth 20000 in
theorem ggX2_strength_X4_at : GoodIn wsX2_strength wsX4_at := goodIn_r _ [4] (by decide +kernel) (by decide +kernel)
set_option maxRecDepth 20000 in
theorem gX2_strength_X4_at_n61 : GoodIn wsX2_strength (wsX4_at) := ggX2_strength_X4_at
set_option maxRecDepth 20000 in
theorem ggX2_strength_X2_allDrops : GoodIn wsX2_strength wsX2_allDrops := goodIn_r _ [9, 1, 12, 13, 14, 15, 16, 17, 18, 19, 20, 21, 22, 23] (by decide +kernel) (by decide +kernel)
set_option maxRecDepth 20000 in
theorem gX2_strength_X2_allDrops : GoodIn wsX2_strength (wsV RX2 69 RX2 yX2_allDrops wsX2_allDrops) := goodIn_app (goodIn_of _ (by decide +kernel)) ggX2_strength_X2_allDrops
set_option maxRecDepth 20000 in
theorem ggX2_strength_X4_divide : GoodIn wsX2_strength wsX4_divide := goodIn_r _ [11] (by decide +kernel) (by decide +kernel)
set_option maxRecDepth 20000 in
theorem gX2_strength_X4_divide_n131 : GoodIn wsX2_strength (wsX4_divide) := ggX2_strength_X4_divide
theorem dX2_strength_0 : decode cX2_strength 0 = .ok (.bipush 100, 2) := by decide +kernel
theorem dX2_strength_2 : decode cX2_strength 2 = .ok (.aload_n 0, 1) := by decide +kernel
theorem dX2_strength_3 : decode cX2_strength 3 = .ok (.getfield 19, 3) := by decide +kernel
theorem dX2_strength_6 : decode cX2_strength 6 = .ok (.iload_n 1, 1) := by decide +kernel
theorem dX2_strength_7 : decode cX2_strength 7 = .ok (.iconst 4, 1) := by decide +kernel
theorem dX2_strength_8 : decode cX2_strength 8 = .ok (.imul, 1) := by decide +kernel
theorem dX2_strength_9 : decode cX2_strength 9 = .ok (.iload_n 2, 1) := by decide +kernel
theorem dX2_strength_10 : decode cX2_strength 10 = .ok (.iadd, 1) := by decide +kernel
theorem dX2_strength_11 : decode cX2_strength 11 = .ok (.invokestatic 61, 3) := by decide +kernel
theorem dX2_strength_14 : decode cX2_strength 14 = .ok (.imul, 1) := by decide +kernel
theorem dX2_strength_15 : decode cX2_strength 15 = .ok (.aload_n 0, 1) := by decide +kernel
theorem dX2_strength_16 : decode cX2_strength 16 = .ok (.iload_n 1, 1) := by decide +kernel
theorem dX2_strength_17 : decode cX2_strength 17 = .ok (.invokevirtual 69, 3) := by decide +kernel
theorem dX2_strength_20 : decode cX2_strength 20 = .ok (.invokestatic 131, 3) := by decide +kernel
theorem dX2_strength_23 : decode cX2_strength 23 = .ok (.ireturn, 1) := by decide +kernel
set_option maxRecDepth 20000 in
theorem ggX2_distanceOfPanel_X4_at : GoodIn wsX2_distanceOfPanel wsX4_at := goodIn_r _ [4] (by decide +kernel) (by decide +kernel)
set_option maxRecDepth 20000 in
theorem gX2_distanceOfPanel_X4_at_n61 : GoodIn wsX2_distanceOfPanel (wsX4_at) := ggX2_distanceOfPanel_X4_at
set_option maxRecDepth 20000 in
theorem ggX2_distanceOfPanel_X2_distance : GoodIn wsX2_distanceOfPanel wsX2_distance := goodIn_r _ [9, 10, 11, 12, 13, 14, 2, 3, 4, 15, 16, 17, 18, 19, 20, 21, 22, 23, 24, 25, 26] (by decide +kernel) (by decide +kernel)
set_option maxRecDepth 20000 in
theorem gX2_distanceOfPanel_X2_distance : GoodIn wsX2_distanceOfPanel (wsV RX2 123 RX2 yX2_distance wsX2_distance) := goodIn_app (goodIn_of _ (by decide +kernel)) ggX2_distanceOfPanel_X2_distance
theorem dX2_distanceOfPanel_0 : decode cX2_distanceOfPanel 0 = .ok (.iload_n 1, 1) := by decide +kernel
theorem dX2_distanceOfPanel_1 : decode cX2_distanceOfPanel 1 = .ok (.iconst 3, 1) := by decide +kernel
theorem dX2_distanceOfPanel_2 : decode cX2_distanceOfPanel 2 = .ok (.imul, 1) := by decide +kernel
theorem dX2_distanceOfPanel_3 : decode cX2_distanceOfPanel 3 = .ok (.istore_n 2, 1) := by decide +kernel
theorem dX2_distanceOfPanel_4 : decode cX2_distanceOfPanel 4 = .ok (.aload_n 0, 1) := by decide +kernel
theorem dX2_distanceOfPanel_5 : decode cX2_distanceOfPanel 5 = .ok (.iload_n 1, 1) := by decide +kernel
theorem dX2_distanceOfPanel_6 : decode cX2_distanceOfPanel 6 = .ok (.aload_n 0, 1) := by decide +kernel
theorem dX2_distanceOfPanel_7 : decode cX2_distanceOfPanel 7 = .ok (.getfield 28, 3) := by decide +kernel
theorem dX2_distanceOfPanel_10 : decode cX2_distanceOfPanel 10 = .ok (.iload_n 2, 1) := by decide +kernel
theorem dX2_distanceOfPanel_11 : decode cX2_distanceOfPanel 11 = .ok (.invokestatic 61, 3) := by decide +kernel
theorem dX2_distanceOfPanel_14 : decode cX2_distanceOfPanel 14 = .ok (.aload_n 0, 1) := by decide +kernel
theorem dX2_distanceOfPanel_15 : decode cX2_distanceOfPanel 15 = .ok (.getfield 28, 3) := by decide +kernel
theorem dX2_distanceOfPanel_18 : decode cX2_distanceOfPanel 18 = .ok (.iload_n 2, 1) := by decide +kernel
theorem dX2_distanceOfPanel_19 : decode cX2_distanceOfPanel 19 = .ok (.iconst 1, 1) := by decide +kernel
theorem dX2_distanceOfPanel_20 : decode cX2_distanceOfPanel 20 = .ok (.iadd, 1) := by decide +kernel
theorem dX2_distanceOfPanel_21 : decode cX2_distanceOfPanel 21 = .ok (.invokestatic 61, 3) := by decide +kernel
theorem dX2_distanceOfPanel_24 : decode cX2_distanceOfPanel 24 = .ok (.aload_n 0, 1) := by decide +kernel
theorem dX2_distanceOfPanel_25 : decode cX2_distanceOfPanel 25 = .ok (.getfield 28, 3) := by decide +kernel
theorem dX2_distanceOfPanel_28 : decode cX2_distanceOfPanel 28 = .ok (.iload_n 2, 1) := by decide +kernel
theorem dX2_distanceOfPanel_29 : decode cX2_distanceOfPanel 29 = .ok (.iconst 2, 1) := by decide +kernel
theorem dX2_distanceOfPanel_30 : decode cX2_distanceOfPanel 30 = .ok (.iadd, 1) := by decide +kernel
theorem dX2_distanceOfPanel_31 : decode cX2_distanceOfPanel 31 = .ok (.invokestatic 61, 3) := by decide +kernel
theorem dX2_distanceOfPanel_34 : decode cX2_distanceOfPanel 34 = .ok (.invokevirtual 123, 3) := by decide +kernel
theorem dX2_distanceOfPanel_37 : decode cX2_distanceOfPanel 37 = .ok (.ireturn, 1) := by decide +kernel
set_option maxRecDepth 20000 in
theorem ggX2_isStrength_X4_isBetween : GoodIn wsX2_isStrength wsX4_isBetween := goodIn_r _ [3] (by decide +kernel) (by decide +kernel)
set_option maxRecDepth 20000 in
theorem gX2_isStrength_X4_isBetween_n57 : GoodIn wsX2_isStrength (wsX4_isBetween) := ggX2_isStrength_X4_isBetween
theorem dX2_isStrength_0 : decode cX2_isStrength 0 = .ok (.iload_n 0, 1) := by decide +kernel
theorem dX2_isStrength_1 : decode cX2_isStrength 1 = .ok (.iconst 0, 1) := by decide +kernel
theorem dX2_isStrength_2 : decode cX2_isStrength 2 = .ok (.bipush 100, 2) := by decide +kernel
theorem dX2_isStrength_4 : decode cX2_isStrength 4 = .ok (.invokestatic 57, 3) := by decide +kernel
theorem dX2_isStrength_7 : decode cX2_isStrength 7 = .ok (.ireturn, 1) := by decide +kernel
set_option maxRecDepth 20000 in
theorem ggX2_isPainted_X4_at : GoodIn wsX2_isPainted wsX4_at := goodIn_r _ [4] (by decide +kernel) (by decide +kernel)
set_option maxRecDepth 20000 in
theorem gX2_isPainted_X4_at_n61 : GoodIn wsX2_isPainted (wsX4_at) := ggX2_isPainted_X4_at
theorem dX2_isPainted_0 : decode cX2_isPainted 0 = .ok (.aload_n 0, 1) := by decide +kernel
theorem dX2_isPainted_1 : decode cX2_isPainted 1 = .ok (.getfield 31, 3) := by decide +kernel
theorem dX2_isPainted_4 : decode cX2_isPainted 4 = .ok (.iload_n 1, 1) := by decide +kernel
theorem dX2_isPainted_5 : decode cX2_isPainted 5 = .ok (.invokestatic 61, 3) := by decide +kernel
theorem dX2_isPainted_8 : decode cX2_isPainted 8 = .ok (.ifCond .le 7, 3) := by decide +kernel
theorem dX2_isPainted_11 : decode cX2_isPainted 11 = .ok (.iconst 1, 1) := by decide +kernel
theorem dX2_isPainted_12 : decode cX2_isPainted 12 = .ok (.goto 4, 3) := by decide +kernel
theorem dX2_isPainted_15 : decode cX2_isPainted 15 = .ok (.iconst 0, 1) := by decide +kernel
theorem dX2_isPainted_16 : decode cX2_isPainted 16 = .ok (.ireturn, 1) := by decide +kernel
set_option maxRecDepth 20000 in
theorem ggX2_isWell_X2_isPainted : GoodIn wsX2_isWell wsX2_isPainted := goodIn_r _ [6, 7, 8, 9, 10, 25, 26, 27, 28, 29, 30, 31, 32, 33, 34, 35, 36] (by decide +kernel) (by decide +kernel)
set_option maxRecDepth 20000 in
theorem gX2_isWell_X2_isPainted : GoodIn wsX2_isWell (wsV RX2 111 RX2 yX2_isPainted wsX2_isPainted) := goodIn_app (goodIn_of _ (by decide +kernel)) ggX2_isWell_X2_isPainted
set_option maxRecDepth 20000 in
theorem ggX2_isWell_X2_distanceOfPanel : GoodIn wsX2_isWell wsX2_distanceOfPanel := goodIn_r _ [14, 15, 8, 9, 10, 16, 17, 18, 5, 19, 20, 21, 22, 23, 24, 25, 26, 27, 28, 29, 30, 31, 32, 33, 34, 35, 36] (by decide +kernel) (by decide +kernel)
set_option maxRecDepth 20000 in
theorem gX2_isWell_X2_distanceOfPanel : GoodIn wsX2_isWell (wsV RX2 91 RX2 yX2_distanceOfPanel wsX2_distanceOfPanel) := goodIn_app (goodIn_of _ (by decide +kernel)) ggX2_isWell_X2_distanceOfPanel
set_option maxRecDepth 20000 in
theorem ggX2_isWell_X4_at : GoodIn wsX2_isWell wsX4_at := goodIn_r _ [10] (by decide +kernel) (by decide +kernel)
set_option maxRecDepth 20000 in
theorem gX2_isWell_X4_at_n61 : GoodIn wsX2_isWell (wsX4_at) := ggX2_isWell_X4_at
theorem dX2_isWell_0 : decode cX2_isWell 0 = .ok (.aload_n 0, 1) := by decide +kernel
theorem dX2_isWell_1 : decode cX2_isWell 1 = .ok (.iload_n 1, 1) := by decide +kernel
theorem dX2_isWell_2 : decode cX2_isWell 2 = .ok (.invokevirtual 111, 3) := by decide +kernel
theorem dX2_isWell_5 : decode cX2_isWell 5 = .ok (.ifCond .eq 23, 3) := by decide +kernel
theorem dX2_isWell_8 : decode cX2_isWell 8 = .ok (.aload_n 0, 1) := by decide +kernel
theorem dX2_isWell_9 : decode cX2_isWell 9 = .ok (.iload_n 1, 1) := by decide +kernel
theorem dX2_isWell_10 : decode cX2_isWell 10 = .ok (.invokevirtual 91, 3) := by decide +kernel
theorem dX2_isWell_13 : decode cX2_isWell 13 = .ok (.aload_n 0, 1) := by decide +kernel
theorem dX2_isWell_14 : decode cX2_isWell 14 = .ok (.getfield 9, 3) := by decide +kernel
theorem dX2_isWell_17 : decode cX2_isWell 17 = .ok (.iconst 1, 1) := by decide +kernel
theorem dX2_isWell_18 : decode cX2_isWell 18 = .ok (.invokestatic 61, 3) := by decide +kernel
theorem dX2_isWell_21 : decode cX2_isWell 21 = .ok (.if_icmp .gt 7, 3) := by decide +kernel
theorem dX2_isWell_24 : decode cX2_isWell 24 = .ok (.iconst 1, 1) := by decide +kernel
theorem dX2_isWell_25 : decode cX2_isWell 25 = .ok (.goto 4, 3) := by decide +kernel
theorem dX2_isWell_28 : decode cX2_isWell 28 = .ok (.iconst 0, 1) := by decide +kernel
theorem dX2_isWell_29 : decode cX2_isWell 29 = .ok (.ireturn, 1) := by decide +kernel
set_option maxRecDepth 20000 in
theorem ggX2_panelsPainted_X2_isPainted : GoodIn wsX2_panelsPainted wsX2_isPainted := goodIn_r _ [5, 6, 7, 8, 9, 10, 11, 12, 13, 14, 15, 16, 17, 18, 19, 20, 21] (by decide +kernel) (by decide +kernel)
set_option maxRecDepth 20000 in
theorem gX2_panelsPainted_X2_isPainted : GoodIn wsX2_panelsPainted (wsV RX2 111 RX2 yX2_isPainted wsX2_isPainted) := goodIn_app (goodIn_of _ (by decide +kernel)) ggX2_panelsPainted_X2_isPainted
theorem dX2_panelsPainted_0 : decode cX2_panelsPainted 0 = .ok (.iconst 0, 1) := by decide +kernel
theorem dX2_panelsPainted_1 : decode cX2_panelsPainted 1 = .ok (.istore_n 1, 1) := by decide +kernel
theorem dX2_panelsPainted_2 : decode cX2_panelsPainted 2 = .ok (.iconst 0, 1) := by decide +kernel
theorem dX2_panelsPainted_3 : decode cX2_panelsPainted 3 = .ok (.istore_n 2, 1) := by decide +kernel
theorem dX2_panelsPainted_4 : decode cX2_panelsPainted 4 = .ok (.iload_n 2, 1) := by decide +kernel
theorem dX2_panelsPainted_5 : decode cX2_panelsPainted 5 = .ok (.bipush 6, 2) := by decide +kernel
theorem dX2_panelsPainted_7 : decode cX2_panelsPainted 7 = .ok (.if_icmp .ge 25, 3) := by decide +kernel
theorem dX2_panelsPainted_10 : decode cX2_panelsPainted 10 = .ok (.iload_n 1, 1) := by decide +kernel
theorem dX2_panelsPainted_11 : decode cX2_panelsPainted 11 = .ok (.aload_n 0, 1) := by decide +kernel
theorem dX2_panelsPainted_12 : decode cX2_panelsPainted 12 = .ok (.iload_n 2, 1) := by decide +kernel
theorem dX2_panelsPainted_13 : decode cX2_panelsPainted 13 = .ok (.invokevirtual 111, 3) := by decide +kernel
theorem dX2_panelsPainted_16 : decode cX2_panelsPainted 16 = .ok (.ifCond .eq 7, 3) := by decide +kernel
theorem dX2_panelsPainted_19 : decode cX2_panelsPainted 19 = .ok (.iconst 1, 1) := by decide +kernel
theorem dX2_panelsPainted_20 : decode cX2_panelsPainted 20 = .ok (.goto 4, 3) := by decide +kernel
theorem dX2_panelsPainted_23 : decode cX2_panelsPainted 23 = .ok (.iconst 0, 1) := by decide +kernel
theorem dX2_panelsPainted_24 : decode cX2_panelsPainted 24 = .ok (.iadd, 1) := by decide +kernel
theorem dX2_panelsPainted_25 : decode cX2_panelsPainted 25 = .ok (.istore_n 1, 1) := by decide +kernel
theorem dX2_panelsPainted_26 : decode cX2_panelsPainted 26 = .ok (.iinc 2 1, 3) := by decide +kernel
theorem dX2_panelsPainted_29 : decode cX2_panelsPainted 29 = .ok (.goto (-25), 3) := by decide +kernel
theorem dX2_panelsPainted_32 : decode cX2_panelsPainted 32 = .ok (.iload_n 1, 1) := by decide +kernel
theorem dX2_panelsPainted_33 : decode cX2_panelsPainted 33 = .ok (.ireturn, 1) := by decide +kernel
set_option maxRecDepth 20000 in
theorem ggX2_panelsWell_X2_isWell : GoodIn wsX2_panelsWell wsX2_isWell := goodIn_r _ [5, 6, 7, 8, 9, 4, 10, 11, 12, 13, 14, 15, 16, 17, 18, 19, 20, 21, 22, 23, 24, 25, 26, 27, 28, 29, 30, 31, 32, 33, 34, 35, 36, 37, 38, 39, 40] (by decide +kernel) (by decide +kernel)
set_option maxRecDepth 20000 in
theorem gX2_panelsWell_X2_isWell : GoodIn wsX2_panelsWell (wsV RX2 108 RX2 yX2_isWell wsX2_isWell) := goodIn_app (goodIn_of _ (by decide +kernel)) ggX2_panelsWell_X2_isWell
theorem dX2_panelsWell_0 : decode cX2_panelsWell 0 = .ok (.iconst 0, 1) := by decide +kernel
theorem dX2_panelsWell_1 : decode cX2_panelsWell 1 = .ok (.istore_n 1, 1) := by decide +kernel
theorem dX2_panelsWell_2 : decode cX2_panelsWell 2 = .ok (.iconst 0, 1) := by decide +kernel
theorem dX2_panelsWell_3 : decode cX2_panelsWell 3 = .ok (.istore_n 2, 1) := by decide +kernel
theorem dX2_panelsWell_4 : decode cX2_panelsWell 4 = .ok (.iload_n 2, 1) := by decide +kernel
theorem dX2_panelsWell_5 : decode cX2_panelsWell 5 = .ok (.bipush 6, 2) := by decide +kernel
theorem dX2_panelsWell_7 : decode cX2_panelsWell 7 = .ok (.if_icmp .ge 25, 3) := by decide +kernel
theorem dX2_panelsWell_10 : decode cX2_panelsWell 10 = .ok (.iload_n 1, 1) := by decide +kernel
theorem dX2_panelsWell_11 : decode cX2_panelsWell 11 = .ok (.aload_n 0, 1) := by decide +kernel
theorem dX2_panelsWell_12 : decode cX2_panelsWell 12 = .ok (.iload_n 2, 1) := by decide +kernel
theorem dX2_panelsWell_13 : decode cX2_panelsWell 13 = .ok (.invokevirtual 108, 3) := by decide +kernel
theorem dX2_panelsWell_16 : decode cX2_panelsWell 16 = .ok (.ifCond .eq 7, 3) := by decide +kernel
theorem dX2_panelsWell_19 : decode cX2_panelsWell 19 = .ok (.iconst 1, 1) := by decide +kernel
theorem dX2_panelsWell_20 : decode cX2_panelsWell 20 = .ok (.goto 4, 3) := by decide +kernel
theorem dX2_panelsWell_23 : decode cX2_panelsWell 23 = .ok (.iconst 0, 1) := by decide +kernel
theorem dX2_panelsWell_24 : decode cX2_panelsWell 24 = .ok (.iadd, 1) := by decide +kernel
theorem dX2_panelsWell_25 : decode cX2_panelsWell 25 = .ok (.istore_n 1, 1) := by decide +kernel
theorem dX2_panelsWell_26 : decode cX2_panelsWell 26 = .ok (.iinc 2 1, 3) := by decide +kernel
theorem dX2_panelsWell_29 : decode cX2_panelsWell 29 = .ok (.goto (-25), 3) := by decide +kernel
theorem dX2_panelsWell_32 : decode cX2_panelsWell 32 = .ok (.iload_n 1, 1) := by decide +kernel
theorem dX2_panelsWell_33 : decode cX2_panelsWell 33 = .ok (.ireturn, 1) := by decide +kernel
set_option maxRecDepth 20000 in
theorem ggX2_allStrokes_X4_at : GoodIn wsX2_allStrokes wsX4_at := goodIn_r _ [4] (by decide +kernel) (by decide +kernel)
set_option maxRecDepth 20000 in
theorem gX2_allStrokes_X4_at_n61 : GoodIn wsX2_allStrokes (wsX4_at) := ggX2_allStrokes_X4_at
theorem dX2_allStrokes_0 : decode cX2_allStrokes 0 = .ok (.iconst 0, 1) := by decide +kernel
theorem dX2_allStrokes_1 : decode cX2_allStrokes 1 = .ok (.istore_n 1, 1) := by decide +kernel
theorem dX2_allStrokes_2 : decode cX2_allStrokes 2 = .ok (.iconst 0, 1) := by decide +kernel
theorem dX2_allStrokes_3 : decode cX2_allStrokes 3 = .ok (.istore_n 2, 1) := by decide +kernel
theorem dX2_allStrokes_4 : decode cX2_allStrokes 4 = .ok (.iload_n 2, 1) := by decide +kernel
theorem dX2_allStrokes_5 : decode cX2_allStrokes 5 = .ok (.bipush 6, 2) := by decide +kernel
theorem dX2_allStrokes_7 : decode cX2_allStrokes 7 = .ok (.if_icmp .ge 20, 3) := by decide +kernel
theorem dX2_allStrokes_10 : decode cX2_allStrokes 10 = .ok (.iload_n 1, 1) := by decide +kernel
theorem dX2_allStrokes_11 : decode cX2_allStrokes 11 = .ok (.aload_n 0, 1) := by decide +kernel
theorem dX2_allStrokes_12 : decode cX2_allStrokes 12 = .ok (.getfield 31, 3) := by decide +kernel
theorem dX2_allStrokes_15 : decode cX2_allStrokes 15 = .ok (.iload_n 2, 1) := by decide +kernel
theorem dX2_allStrokes_16 : decode cX2_allStrokes 16 = .ok (.invokestatic 61, 3) := by decide +kernel
theorem dX2_allStrokes_19 : decode cX2_allStrokes 19 = .ok (.iadd, 1) := by decide +kernel
theorem dX2_allStrokes_20 : decode cX2_allStrokes 20 = .ok (.istore_n 1, 1) := by decide +kernel
theorem dX2_allStrokes_21 : decode cX2_allStrokes 21 = .ok (.iinc 2 1, 3) := by decide +kernel
theorem dX2_allStrokes_24 : decode cX2_allStrokes 24 = .ok (.goto (-20), 3) := by decide +kernel
theorem dX2_allStrokes_27 : decode cX2_allStrokes 27 = .ok (.iload_n 1, 1) := by decide +kernel
theorem dX2_allStrokes_28 : decode cX2_allStrokes 28 = .ok (.ireturn, 1) := by decide +kernel
set_option maxRecDepth 20000 in
theorem ggX2_sink_X2_allDrops : GoodIn wsX2_sink wsX2_allDrops := goodIn_r _ [7, 1, 11, 12, 13, 14, 15, 16, 17, 18, 19, 20, 21, 22] (by decide +kernel) (by decide +kernel)
set_option maxRecDepth 20000 in
theorem gX2_sink_X2_allDrops : GoodIn wsX2_sink (wsV RX2 69 RX2 yX2_allDrops wsX2_allDrops) := goodIn_app (goodIn_of _ (by decide +kernel)) ggX2_sink_X2_allDrops
set_option maxRecDepth 20000 in
theorem ggX2_sink_X4_write : GoodIn wsX2_sink wsX4_write := goodIn_r _ [10] (by decide +kernel) (by decide +kernel)
set_option maxRecDepth 20000 in
theorem gX2_sink_X4_write_n15 : GoodIn wsX2_sink (wsX4_write) := ggX2_sink_X4_write
theorem dX2_sink_0 : decode cX2_sink 0 = .ok (.aload_n 0, 1) := by decide +kernel
theorem dX2_sink_1 : decode cX2_sink 1 = .ok (.iload_n 1, 1) := by decide +kernel
theorem dX2_sink_2 : decode cX2_sink 2 = .ok (.invokevirtual 69, 3) := by decide +kernel
theorem dX2_sink_5 : decode cX2_sink 5 = .ok (.istore_n 2, 1) := by decide +kernel
theorem dX2_sink_6 : decode cX2_sink 6 = .ok (.iconst 0, 1) := by decide +kernel
theorem dX2_sink_7 : decode cX2_sink 7 = .ok (.istore_n 3, 1) := by decide +kernel
theorem dX2_sink_8 : decode cX2_sink 8 = .ok (.iload_n 3, 1) := by decide +kernel
theorem dX2_sink_9 : decode cX2_sink 9 = .ok (.iconst 4, 1) := by decide +kernel
theorem dX2_sink_10 : decode cX2_sink 10 = .ok (.if_icmp .ge 22, 3) := by decide +kernel
theorem dX2_sink_13 : decode cX2_sink 13 = .ok (.aload_n 0, 1) := by decide +kernel
theorem dX2_sink_14 : decode cX2_sink 14 = .ok (.getfield 19, 3) := by decide +kernel
theorem dX2_sink_17 : decode cX2_sink 17 = .ok (.iload_n 1, 1) := by decide +kernel
theorem dX2_sink_18 : decode cX2_sink 18 = .ok (.iconst 4, 1) := by decide +kernel
theorem dX2_sink_19 : decode cX2_sink 19 = .ok (.imul, 1) := by decide +kernel
theorem dX2_sink_20 : decode cX2_sink 20 = .ok (.iload_n 3, 1) := by decide +kernel
theorem dX2_sink_21 : decode cX2_sink 21 = .ok (.iadd, 1) := by decide +kernel
theorem dX2_sink_22 : decode cX2_sink 22 = .ok (.iconst 0, 1) := by decide +kernel
theorem dX2_sink_23 : decode cX2_sink 23 = .ok (.invokestatic 15, 3) := by decide +kernel
theorem dX2_sink_26 : decode cX2_sink 26 = .ok (.iinc 3 1, 3) := by decide +kernel
theorem dX2_sink_29 : decode cX2_sink 29 = .ok (.goto (-21), 3) := by decide +kernel
theorem dX2_sink_32 : decode cX2_sink 32 = .ok (.aload_n 0, 1) := by decide +kernel
theorem dX2_sink_33 : decode cX2_sink 33 = .ok (.dup, 1) := by decide +kernel
theorem dX2_sink_34 : decode cX2_sink 34 = .ok (.getfield 41, 3) := by decide +kernel
theorem dX2_sink_37 : decode cX2_sink 37 = .ok (.iload_n 2, 1) := by decide +kernel
theorem dX2_sink_38 : decode cX2_sink 38 = .ok (.iadd, 1) := by decide +kernel
theorem dX2_sink_39 : decode cX2_sink 39 = .ok (.putfield 41, 3) := by decide +kernel
theorem dX2_sink_42 : decode cX2_sink 42 = .ok (.iload_n 2, 1) := by decide +kernel
theorem dX2_sink_43 : decode cX2_sink 43 = .ok (.ireturn, 1) := by decide +kernel
set_option maxRecDepth 20000 in
theorem ggX2_move_X2_allDrops : GoodIn wsX2_move wsX2_allDrops := goodIn_r _ [7, 1, 30, 31, 32, 33, 34, 35, 36, 37, 38, 39, 40, 41] (by decide +kernel) (by decide +kernel)
set_option maxRecDepth 20000 in
theorem gX2_move_X2_allDrops : GoodIn wsX2_move (wsV RX2 69 RX2 yX2_allDrops wsX2_allDrops) := goodIn_app (goodIn_of _ (by decide +kernel)) ggX2_move_X2_allDrops
set_option maxRecDepth 20000 in
theorem ggX2_move_X2_takeOut : GoodIn wsX2_move wsX2_takeOut := goodIn_r _ [11, 1, 2, 12, 3, 4, 5, 6, 7, 13, 14, 15, 16, 17, 18, 19, 20, 21, 22, 23, 24, 25, 26, 27, 28, 29, 30, 31, 32, 33, 34, 35, 36, 37, 38, 39, 40, 41] (by decide +kernel) (by decide +kernel)
set_option maxRecDepth 20000 in
theorem gX2_move_X2_takeOut : GoodIn wsX2_move (wsV RX2 87 RX2 yX2_takeOut wsX2_takeOut) := goodIn_app (goodIn_of _ (by decide +kernel)) ggX2_move_X2_takeOut
set_option maxRecDepth 20000 in
theorem ggX2_move_X4_at : GoodIn wsX2_move wsX4_at := goodIn_r _ [15] (by decide +kernel) (by decide +kernel)
set_option maxRecDepth 20000 in
theorem gX2_move_X4_at_n61 : GoodIn wsX2_move (wsX4_at) := ggX2_move_X4_at
set_option maxRecDepth 20000 in
theorem ggX2_move_X4_add : GoodIn wsX2_move wsX4_add := goodIn_r _ [27, 28, 13, 14, 15, 29, 18, 19] (by decide +kernel) (by decide +kernel)
set_option maxRecDepth 20000 in
theorem gX2_move_X4_add_n73 : GoodIn wsX2_move (wsX4_add) := ggX2_move_X4_add
theorem dX2_move_0 : decode cX2_move 0 = .ok (.aload_n 0, 1) := by decide +kernel
theorem dX2_move_1 : decode cX2_move 1 = .ok (.iload_n 1, 1) := by decide +kernel
theorem dX2_move_2 : decode cX2_move 2 = .ok (.invokevirtual 69, 3) := by decide +kernel
theorem dX2_move_5 : decode cX2_move 5 = .ok (.iload_n 3, 1) := by decide +kernel
theorem dX2_move_6 : decode cX2_move 6 = .ok (.if_icmp .ge 6, 3) := by decide +kernel
theorem dX2_move_9 : decode cX2_move 9 = .ok (.bipush (-5), 2) := by decide +kernel
theorem dX2_move_11 : decode cX2_move 11 = .ok (.ireturn, 1) := by decide +kernel
theorem dX2_move_12 : decode cX2_move 12 = .ok (.aload_n 0, 1) := by decide +kernel
theorem dX2_move_13 : decode cX2_move 13 = .ok (.iload_n 2, 1) := by decide +kernel
theorem dX2_move_14 : decode cX2_move 14 = .ok (.invokevirtual 69, 3) := by decide +kernel
theorem dX2_move_17 : decode cX2_move 17 = .ok (.iload_n 3, 1) := by decide +kernel
theorem dX2_move_18 : decode cX2_move 18 = .ok (.iadd, 1) := by decide +kernel
theorem dX2_move_19 : decode cX2_move 19 = .ok (.istore 5, 2) := by decide +kernel
theorem dX2_move_21 : decode cX2_move 21 = .ok (.iload 5, 2) := by decide +kernel
theorem dX2_move_23 : decode cX2_move 23 = .ok (.iload 4, 2) := by decide +kernel
theorem dX2_move_25 : decode cX2_move 25 = .ok (.if_icmp .le 6, 3) := by decide +kernel
theorem dX2_move_28 : decode cX2_move 28 = .ok (.bipush (-4), 2) := by decide +kernel
theorem dX2_move_30 : decode cX2_move 30 = .ok (.ireturn, 1) := by decide +kernel
theorem dX2_move_31 : decode cX2_move 31 = .ok (.aload_n 0, 1) := by decide +kernel
theorem dX2_move_32 : decode cX2_move 32 = .ok (.iload_n 1, 1) := by decide +kernel
theorem dX2_move_33 : decode cX2_move 33 = .ok (.iload_n 3, 1) := by decide +kernel
theorem dX2_move_34 : decode cX2_move 34 = .ok (.invokevirtual 87, 3) := by decide +kernel
theorem dX2_move_37 : decode cX2_move 37 = .ok (.iconst 0, 1) := by decide +kernel
theorem dX2_move_38 : decode cX2_move 38 = .ok (.istore 6, 2) := by decide +kernel
theorem dX2_move_40 : decode cX2_move 40 = .ok (.iload 6, 2) := by decide +kernel
theorem dX2_move_42 : decode cX2_move 42 = .ok (.iconst 4, 1) := by decide +kernel
theorem dX2_move_43 : decode cX2_move 43 = .ok (.if_icmp .ge 31, 3) := by decide +kernel
theorem dX2_move_46 : decode cX2_move 46 = .ok (.aload_n 0, 1) := by decide +kernel
theorem dX2_move_47 : decode cX2_move 47 = .ok (.getfield 19, 3) := by decide +kernel
theorem dX2_move_50 : decode cX2_move 50 = .ok (.iload_n 2, 1) := by decide +kernel
theorem dX2_move_51 : decode cX2_move 51 = .ok (.iconst 4, 1) := by decide +kernel
theorem dX2_move_52 : decode cX2_move 52 = .ok (.imul, 1) := by decide +kernel
theorem dX2_move_53 : decode cX2_move 53 = .ok (.iload 6, 2) := by decide +kernel
theorem dX2_move_55 : decode cX2_move 55 = .ok (.iadd, 1) := by decide +kernel
theorem dX2_move_56 : decode cX2_move 56 = .ok (.aload_n 0, 1) := by decide +kernel
theorem dX2_move_57 : decode cX2_move 57 = .ok (.getfield 47, 3) := by decide +kernel
theorem dX2_move_60 : decode cX2_move 60 = .ok (.iload 6, 2) := by decide +kernel
theorem dX2_move_62 : decode cX2_move 62 = .ok (.invokestatic 61, 3) := by decide +kernel
theorem dX2_move_65 : decode cX2_move 65 = .ok (.invokestatic 73, 3) := by decide +kernel
theorem dX2_move_68 : decode cX2_move 68 = .ok (.iinc 6 1, 3) := by decide +kernel
theorem dX2_move_71 : decode cX2_move 71 = .ok (.goto (-31), 3) := by decide +kernel
theorem dX2_move_74 : decode cX2_move 74 = .ok (.iload 5, 2) := by decide +kernel
theorem dX2_move_76 : decode cX2_move 76 = .ok (.ireturn, 1) := by decide +kernel
set_option maxRecDepth 20000 in
theorem ggX2_takeOut_X2_allDrops : GoodIn wsX2_takeOut wsX2_allDrops := goodIn_r _ [8, 1, 26, 27, 28, 29, 30, 31, 32, 33, 34, 35, 36, 37] (by decide +kernel) (by decide +kernel)
set_option maxRecDepth 20000 in
theorem gX2_takeOut_X2_allDrops : GoodIn wsX2_takeOut (wsV RX2 69 RX2 yX2_allDrops wsX2_allDrops) := goodIn_app (goodIn_of _ (by decide +kernel)) ggX2_takeOut_X2_allDrops
set_option maxRecDepth 20000 in
theorem ggX2_takeOut_X4_at : GoodIn wsX2_takeOut wsX4_at := goodIn_r _ [11] (by decide +kernel) (by decide +kernel)
set_option maxRecDepth 20000 in
theorem gX2_takeOut_X4_at_n61 : GoodIn wsX2_takeOut (wsX4_at) := ggX2_takeOut_X4_at
set_option maxRecDepth 20000 in
theorem ggX2_takeOut_X4_divide : GoodIn wsX2_takeOut wsX4_divide := goodIn_r _ [13] (by decide +kernel) (by decide +kernel)
set_option maxRecDepth 20000 in
theorem gX2_takeOut_X4_divide_n131 : GoodIn wsX2_takeOut (wsX4_divide) := ggX2_takeOut_X4_divide
set_option maxRecDepth 20000 in
theorem ggX2_takeOut_X4_write : GoodIn wsX2_takeOut wsX4_write := goodIn_r _ [15] (by decide +kernel) (by decide +kernel)
set_option maxRecDepth 20000 in
theorem gX2_takeOut_X4_write_n15 : GoodIn wsX2_takeOut (wsX4_write) := ggX2_takeOut_X4_write
set_option maxRecDepth 20000 in
theorem ggX2_takeOut_X4_remainder : GoodIn wsX2_takeOut wsX4_remainder := goodIn_r _ [17] (by decide +kernel) (by decide +kernel)
set_option maxRecDepth 20000 in
theorem gX2_takeOut_X4_remainder_n134 : GoodIn wsX2_takeOut (wsX4_remainder) := ggX2_takeOut_X4_remainder
set_option maxRecDepth 20000 in
theorem ggX2_takeOut_X2_kindWithMostLeftOver : GoodIn wsX2_takeOut wsX2_kindWithMostLeftOver := goodIn_r _ [21, 3, 9, 10, 11, 26, 27, 28, 29, 30, 31, 32, 33, 34, 35, 36, 37] (by decide +kernel) (by decide +kernel)
set_option maxRecDepth 20000 in
theorem gX2_takeOut_X2_kindWithMostLeftOver : GoodIn wsX2_takeOut (wsV RX2 137 RX2 yX2_kindWithMostLeftOver wsX2_kindWithMostLeftOver) := goodIn_app (goodIn_of _ (by decide +kernel)) ggX2_takeOut_X2_kindWithMostLeftOver
set_option maxRecDepth 20000 in
theorem ggX2_takeOut_X4_add : GoodIn wsX2_takeOut wsX4_add := goodIn_r _ [23, 24, 9, 10, 11, 25, 14, 15] (by decide +kernel) (by decide +kernel)
set_option maxRecDepth 20000 in
theorem gX2_takeOut_X4_add_n73 : GoodIn wsX2_takeOut (wsX4_add) := ggX2_takeOut_X4_add
theorem dX2_takeOut_0 : decode cX2_takeOut 0 = .ok (.aload_n 0, 1) := by decide +kernel
theorem dX2_takeOut_1 : decode cX2_takeOut 1 = .ok (.iload_n 1, 1) := by decide +kernel
theorem dX2_takeOut_2 : decode cX2_takeOut 2 = .ok (.invokevirtual 69, 3) := by decide +kernel
theorem dX2_takeOut_5 : decode cX2_takeOut 5 = .ok (.istore_n 3, 1) := by decide +kernel
theorem dX2_takeOut_6 : decode cX2_takeOut 6 = .ok (.iload_n 2, 1) := by decide +kernel
theorem dX2_takeOut_7 : decode cX2_takeOut 7 = .ok (.istore 4, 2) := by decide +kernel
theorem dX2_takeOut_9 : decode cX2_takeOut 9 = .ok (.iconst 0, 1) := by decide +kernel
theorem dX2_takeOut_10 : decode cX2_takeOut 10 = .ok (.istore 5, 2) := by decide +kernel
theorem dX2_takeOut_12 : decode cX2_takeOut 12 = .ok (.iload 5, 2) := by decide +kernel
theorem dX2_takeOut_14 : decode cX2_takeOut 14 = .ok (.iconst 4, 1) := by decide +kernel
theorem dX2_takeOut_15 : decode cX2_takeOut 15 = .ok (.if_icmp .ge 70, 3) := by decide +kernel
theorem dX2_takeOut_18 : decode cX2_takeOut 18 = .ok (.aload_n 0, 1) := by decide +kernel
theorem dX2_takeOut_19 : decode cX2_takeOut 19 = .ok (.getfield 19, 3) := by decide +kernel
theorem dX2_takeOut_22 : decode cX2_takeOut 22 = .ok (.iload_n 1, 1) := by decide +kernel
theorem dX2_takeOut_23 : decode cX2_takeOut 23 = .ok (.iconst 4, 1) := by decide +kernel
theorem dX2_takeOut_24 : decode cX2_takeOut 24 = .ok (.imul, 1) := by decide +kernel
theorem dX2_takeOut_25 : decode cX2_takeOut 25 = .ok (.iload 5, 2) := by decide +kernel
theorem dX2_takeOut_27 : decode cX2_takeOut 27 = .ok (.iadd, 1) := by decide +kernel
theorem dX2_takeOut_28 : decode cX2_takeOut 28 = .ok (.invokestatic 61, 3) := by decide +kernel
theorem dX2_takeOut_31 : decode cX2_takeOut 31 = .ok (.iload_n 2, 1) := by decide +kernel
theorem dX2_takeOut_32 : decode cX2_takeOut 32 = .ok (.imul, 1) := by decide +kernel
theorem dX2_takeOut_33 : decode cX2_takeOut 33 = .ok (.istore 6, 2) := by decide +kernel
theorem dX2_takeOut_35 : decode cX2_takeOut 35 = .ok (.aload_n 0, 1) := by decide +kernel
theorem dX2_takeOut_36 : decode cX2_takeOut 36 = .ok (.getfield 47, 3) := by decide +kernel
theorem dX2_takeOut_39 : decode cX2_takeOut 39 = .ok (.iload 5, 2) := by decide +kernel
theorem dX2_takeOut_41 : decode cX2_takeOut 41 = .ok (.iload 6, 2) := by decide +kernel
theorem dX2_takeOut_43 : decode cX2_takeOut 43 = .ok (.iload_n 3, 1) := by decide +kernel
theorem dX2_takeOut_44 : decode cX2_takeOut 44 = .ok (.invokestatic 131, 3) := by decide +kernel
theorem dX2_takeOut_47 : decode cX2_takeOut 47 = .ok (.invokestatic 15, 3) := by decide +kernel
theorem dX2_takeOut_50 : decode cX2_takeOut 50 = .ok (.aload_n 0, 1) := by decide +kernel
theorem dX2_takeOut_51 : decode cX2_takeOut 51 = .ok (.getfield 50, 3) := by decide +kernel
theorem dX2_takeOut_54 : decode cX2_takeOut 54 = .ok (.iload 5, 2) := by decide +kernel
theorem dX2_takeOut_56 : decode cX2_takeOut 56 = .ok (.iload 6, 2) := by decide +kernel
theorem dX2_takeOut_58 : decode cX2_takeOut 58 = .ok (.iload_n 3, 1) := by decide +kernel
theorem dX2_takeOut_59 : decode cX2_takeOut 59 = .ok (.invokestatic 134, 3) := by decide +kernel
theorem dX2_takeOut_62 : decode cX2_takeOut 62 = .ok (.invokestatic 15, 3) := by decide +kernel
theorem dX2_takeOut_65 : decode cX2_takeOut 65 = .ok (.iload 4, 2) := by decide +kernel
theorem dX2_takeOut_67 : decode cX2_takeOut 67 = .ok (.aload_n 0, 1) := by decide +kernel
theorem dX2_takeOut_68 : decode cX2_takeOut 68 = .ok (.getfield 47, 3) := by decide +kernel
theorem dX2_takeOut_71 : decode cX2_takeOut 71 = .ok (.iload 5, 2) := by decide +kernel
theorem dX2_takeOut_73 : decode cX2_takeOut 73 = .ok (.invokestatic 61, 3) := by decide +kernel
theorem dX2_takeOut_76 : decode cX2_takeOut 76 = .ok (.isub, 1) := by decide +kernel
theorem dX2_takeOut_77 : decode cX2_takeOut 77 = .ok (.istore 4, 2) := by decide +kernel
theorem dX2_takeOut_79 : decode cX2_takeOut 79 = .ok (.iinc 5 1, 3) := by decide +kernel
theorem dX2_takeOut_82 : decode cX2_takeOut 82 = .ok (.goto (-70), 3) := by decide +kernel
theorem dX2_takeOut_85 : decode cX2_takeOut 85 = .ok (.iconst 0, 1) := by decide +kernel
theorem dX2_takeOut_86 : decode cX2_takeOut 86 = .ok (.istore 5, 2) := by decide +kernel
theorem dX2_takeOut_88 : decode cX2_takeOut 88 = .ok (.iload 5, 2) := by decide +kernel
theorem dX2_takeOut_90 : decode cX2_takeOut 90 = .ok (.iconst 4, 1) := by decide +kernel
theorem dX2_takeOut_91 : decode cX2_takeOut 91 = .ok (.if_icmp .ge 43, 3) := by decide +kernel
theorem dX2_takeOut_94 : decode cX2_takeOut 94 = .ok (.iload 4, 2) := by decide +kernel
theorem dX2_takeOut_96 : decode cX2_takeOut 96 = .ok (.ifCond .le 38, 3) := by decide +kernel
theorem dX2_takeOut_99 : decode cX2_takeOut 99 = .ok (.aload_n 0, 1) := by decide +kernel
theorem dX2_takeOut_100 : decode cX2_takeOut 100 = .ok (.invokevirtual 137, 3) := by decide +kernel
theorem dX2_takeOut_103 : decode cX2_takeOut 103 = .ok (.istore 6, 2) := by decide +kernel
theorem dX2_takeOut_105 : decode cX2_takeOut 105 = .ok (.aload_n 0, 1) := by decide +kernel
theorem dX2_takeOut_106 : decode cX2_takeOut 106 = .ok (.getfield 47, 3) := by decide +kernel
theorem dX2_takeOut_109 : decode cX2_takeOut 109 = .ok (.iload 6, 2) := by decide +kernel
theorem dX2_takeOut_111 : decode cX2_takeOut 111 = .ok (.iconst 1, 1) := by decide +kernel
theorem dX2_takeOut_112 : decode cX2_takeOut 112 = .ok (.invokestatic 73, 3) := by decide +kernel
theorem dX2_takeOut_115 : decode cX2_takeOut 115 = .ok (.aload_n 0, 1) := by decide +kernel
theorem dX2_takeOut_116 : decode cX2_takeOut 116 = .ok (.getfield 50, 3) := by decide +kernel
theorem dX2_takeOut_119 : decode cX2_takeOut 119 = .ok (.iload 6, 2) := by decide +kernel
theorem dX2_takeOut_121 : decode cX2_takeOut 121 = .ok (.iconst (-1), 1) := by decide +kernel
theorem dX2_takeOut_122 : decode cX2_takeOut 122 = .ok (.invokestatic 15, 3) := by decide +kernel
theorem dX2_takeOut_125 : decode cX2_takeOut 125 = .ok (.iinc 4 (-1), 3) := by decide +kernel
theorem dX2_takeOut_128 : decode cX2_takeOut 128 = .ok (.iinc 5 1, 3) := by decide +kernel
theorem dX2_takeOut_131 : decode cX2_takeOut 131 = .ok (.goto (-43), 3) := by decide +kernel
theorem dX2_takeOut_134 : decode cX2_takeOut 134 = .ok (.iconst 0, 1) := by decide +kernel
theorem dX2_takeOut_135 : decode cX2_takeOut 135 = .ok (.istore 5, 2) := by decide +kernel
theorem dX2_takeOut_137 : decode cX2_takeOut 137 = .ok (.iload 5, 2) := by decide +kernel
theorem dX2_takeOut_139 : decode cX2_takeOut 139 = .ok (.iconst 4, 1) := by decide +kernel
theorem dX2_takeOut_140 : decode cX2_takeOut 140 = .ok (.if_icmp .ge 32, 3) := by decide +kernel
theorem dX2_takeOut_143 : decode cX2_takeOut 143 = .ok (.aload_n 0, 1) := by decide +kernel
theorem dX2_takeOut_144 : decode cX2_takeOut 144 = .ok (.getfield 19, 3) := by decide +kernel
theorem dX2_takeOut_147 : decode cX2_takeOut 147 = .ok (.iload_n 1, 1) := by decide +kernel
theorem dX2_takeOut_148 : decode cX2_takeOut 148 = .ok (.iconst 4, 1) := by decide +kernel
theorem dX2_takeOut_149 : decode cX2_takeOut 149 = .ok (.imul, 1) := by decide +kernel
theorem dX2_takeOut_150 : decode cX2_takeOut 150 = .ok (.iload 5, 2) := by decide +kernel
theorem dX2_takeOut_152 : decode cX2_takeOut 152 = .ok (.iadd, 1) := by decide +kernel
theorem dX2_takeOut_153 : decode cX2_takeOut 153 = .ok (.aload_n 0, 1) := by decide +kernel
theorem dX2_takeOut_154 : decode cX2_takeOut 154 = .ok (.getfield 47, 3) := by decide +kernel
theorem dX2_takeOut_157 : decode cX2_takeOut 157 = .ok (.iload 5, 2) := by decide +kernel
theorem dX2_takeOut_159 : decode cX2_takeOut 159 = .ok (.invokestatic 61, 3) := by decide +kernel
theorem dX2_takeOut_162 : decode cX2_takeOut 162 = .ok (.ineg, 1) := by decide +kernel
theorem dX2_takeOut_163 : decode cX2_takeOut 163 = .ok (.invokestatic 73, 3) := by decide +kernel
theorem dX2_takeOut_166 : decode cX2_takeOut 166 = .ok (.iinc 5 1, 3) := by decide +kernel
theorem dX2_takeOut_169 : decode cX2_takeOut 169 = .ok (.goto (-32), 3) := by decide +kernel
theorem dX2_takeOut_172 : decode cX2_takeOut 172 = .ok (.return_, 1) := by decide +kernel
set_option maxRecDepth 20000 in
theorem ggX2_kindWithMostLeftOver_X4_at : GoodIn wsX2_kindWithMostLeftOver wsX4_at := goodIn_r _ [4] (by decide +kernel) (by decide +kernel)
set_option maxRecDepth 20000 in
theorem gX2_kindWithMostLeftOver_X4_at_n61 : GoodIn wsX2_kindWithMostLeftOver (wsX4_at) := ggX2_kindWithMostLeftOver_X4_at
theorem dX2_kindWithMostLeftOver_0 : decode cX2_kindWithMostLeftOver 0 = .ok (.iconst 0, 1) := by decide +kernel
theorem dX2_kindWithMostLeftOver_1 : decode cX2_kindWithMostLeftOver 1 = .ok (.istore_n 1, 1) := by decide +kernel
theorem dX2_kindWithMostLeftOver_2 : decode cX2_kindWithMostLeftOver 2 = .ok (.iconst 1, 1) := by decide +kernel
theorem dX2_kindWithMostLeftOver_3 : decode cX2_kindWithMostLeftOver 3 = .ok (.istore_n 2, 1) := by decide +kernel
theorem dX2_kindWithMostLeftOver_4 : decode cX2_kindWithMostLeftOver 4 = .ok (.iload_n 2, 1) := by decide +kernel
theorem dX2_kindWithMostLeftOver_5 : decode cX2_kindWithMostLeftOver 5 = .ok (.iconst 4, 1) := by decide +kernel
theorem dX2_kindWithMostLeftOver_6 : decode cX2_kindWithMostLeftOver 6 = .ok (.if_icmp .ge 30, 3) := by decide +kernel
theorem dX2_kindWithMostLeftOver_9 : decode cX2_kindWithMostLeftOver 9 = .ok (.aload_n 0, 1) := by decide +kernel
theorem dX2_kindWithMostLeftOver_10 : decode cX2_kindWithMostLeftOver 10 = .ok (.getfield 50, 3) := by decide +kernel
theorem dX2_kindWithMostLeftOver_13 : decode cX2_kindWithMostLeftOver 13 = .ok (.iload_n 2, 1) := by decide +kernel
theorem dX2_kindWithMostLeftOver_14 : decode cX2_kindWithMostLeftOver 14 = .ok (.invokestatic 61, 3) := by decide +kernel
theorem dX2_kindWithMostLeftOver_17 : decode cX2_kindWithMostLeftOver 17 = .ok (.aload_n 0, 1) := by decide +kernel
theorem dX2_kindWithMostLeftOver_18 : decode cX2_kindWithMostLeftOver 18 = .ok (.getfield 50, 3) := by decide +kernel
theorem dX2_kindWithMostLeftOver_21 : decode cX2_kindWithMostLeftOver 21 = .ok (.iload_n 1, 1) := by decide +kernel
theorem dX2_kindWithMostLeftOver_22 : decode cX2_kindWithMostLeftOver 22 = .ok (.invokestatic 61, 3) := by decide +kernel
theorem dX2_kindWithMostLeftOver_25 : decode cX2_kindWithMostLeftOver 25 = .ok (.if_icmp .le 5, 3) := by decide +kernel
theorem dX2_kindWithMostLeftOver_28 : decode cX2_kindWithMostLeftOver 28 = .ok (.iload_n 2, 1) := by decide +kernel
theorem dX2_kindWithMostLeftOver_29 : decode cX2_kindWithMostLeftOver 29 = .ok (.istore_n 1, 1) := by decide +kernel
theorem dX2_kindWithMostLeftOver_30 : decode cX2_kindWithMostLeftOver 30 = .ok (.iinc 2 1, 3) := by decide +kernel
theorem dX2_kindWithMostLeftOver_33 : decode cX2_kindWithMostLeftOver 33 = .ok (.goto (-29), 3) := by decide +kernel
theorem dX2_kindWithMostLeftOver_36 : decode cX2_kindWithMostLeftOver 36 = .ok (.iload_n 1, 1) := by decide +kernel
theorem dX2_kindWithMostLeftOver_37 : decode cX2_kindWithMostLeftOver 37 = .ok (.ireturn, 1) := by decide +kernel
set_option maxRecDepth 20000 in
theorem ggX3_init_X3_begin : GoodIn wsX3_init wsX3_begin := goodIn_r _ [10, 11, 12, 13, 14, 5, 15, 16, 17, 18, 19, 20, 21, 22] (by decide +kernel) (by decide +kernel)
set_option maxRecDepth 20000 in
theorem gX3_init_X3_begin : GoodIn wsX3_init (wsV RX3 15 RX3 yX3_begin wsX3_begin) := goodIn_app (goodIn_of _ (by decide +kernel)) ggX3_init_X3_begin
theorem dX3_init_0 : decode cX3_init 0 = .ok (.aload_n 0, 1) := by decide +kernel
theorem dX3_init_1 : decode cX3_init 1 = .ok (.invokespecial 3, 3) := by decide +kernel
theorem dX3_init_4 : decode cX3_init 4 = .ok (.aload_n 0, 1) := by decide +kernel
theorem dX3_init_5 : decode cX3_init 5 = .ok (.iconst 4, 1) := by decide +kernel
theorem dX3_init_6 : decode cX3_init 6 = .ok (.newarray .int, 2) := by decide +kernel
theorem dX3_init_8 : decode cX3_init 8 = .ok (.putfield 9, 3) := by decide +kernel
theorem dX3_init_11 : decode cX3_init 11 = .ok (.aload_n 0, 1) := by decide +kernel
theorem dX3_init_12 : decode cX3_init 12 = .ok (.iconst 0, 1) := by decide +kernel
theorem dX3_init_13 : decode cX3_init 13 = .ok (.iconst 0, 1) := by decide +kernel
theorem dX3_init_14 : decode cX3_init 14 = .ok (.invokevirtual 15, 3) := by decide +kernel
theorem dX3_init_17 : decode cX3_init 17 = .ok (.return_, 1) := by decide +kernel
set_option maxRecDepth 20000 in
theorem ggX3_begin_X4_write : GoodIn wsX3_begin wsX4_write := goodIn_r _ [8] (by decide +kernel) (by decide +kernel)
set_option maxRecDepth 20000 in
theorem gX3_begin_X4_write_n32 : GoodIn wsX3_begin (wsX4_write) := ggX3_begin_X4_write
theorem dX3_begin_0 : decode cX3_begin 0 = .ok (.aload_n 0, 1) := by decide +kernel
theorem dX3_begin_1 : decode cX3_begin 1 = .ok (.iload_n 1, 1) := by decide +kernel
theorem dX3_begin_2 : decode cX3_begin 2 = .ok (.putfield 19, 3) := by decide +kernel
theorem dX3_begin_5 : decode cX3_begin 5 = .ok (.aload_n 0, 1) := by decide +kernel
theorem dX3_begin_6 : decode cX3_begin 6 = .ok (.iload_n 2, 1) := by decide +kernel
theorem dX3_begin_7 : decode cX3_begin 7 = .ok (.putfield 23, 3) := by decide +kernel
theorem dX3_begin_10 : decode cX3_begin 10 = .ok (.aload_n 0, 1) := by decide +kernel
theorem dX3_begin_11 : decode cX3_begin 11 = .ok (.iconst 0, 1) := by decide +kernel
theorem dX3_begin_12 : decode cX3_begin 12 = .ok (.putfield 26, 3) := by decide +kernel
theorem dX3_begin_15 : decode cX3_begin 15 = .ok (.aload_n 0, 1) := by decide +kernel
theorem dX3_begin_16 : decode cX3_begin 16 = .ok (.iconst 0, 1) := by decide +kernel
theorem dX3_begin_17 : decode cX3_begin 17 = .ok (.putfield 29, 3) := by decide +kernel
theorem dX3_begin_20 : decode cX3_begin 20 = .ok (.iconst 0, 1) := by decide +kernel
theorem dX3_begin_21 : decode cX3_begin 21 = .ok (.istore_n 3, 1) := by decide +kernel
theorem dX3_begin_22 : decode cX3_begin 22 = .ok (.iload_n 3, 1) := by decide +kernel
theorem dX3_begin_23 : decode cX3_begin 23 = .ok (.iconst 4, 1) := by decide +kernel
theorem dX3_begin_24 : decode cX3_begin 24 = .ok (.if_icmp .ge 18, 3) := by decide +kernel
theorem dX3_begin_27 : decode cX3_begin 27 = .ok (.aload_n 0, 1) := by decide +kernel
theorem dX3_begin_28 : decode cX3_begin 28 = .ok (.getfield 9, 3) := by decide +kernel
theorem dX3_begin_31 : decode cX3_begin 31 = .ok (.iload_n 3, 1) := by decide +kernel
theorem dX3_begin_32 : decode cX3_begin 32 = .ok (.iconst 0, 1) := by decide +kernel
theorem dX3_begin_33 : decode cX3_begin 33 = .ok (.invokestatic 32, 3) := by decide +kernel
theorem dX3_begin_36 : decode cX3_begin 36 = .ok (.iinc 3 1, 3) := by decide +kernel
theorem dX3_begin_39 : decode cX3_begin 39 = .ok (.goto (-17), 3) := by decide +kernel
theorem dX3_begin_42 : decode cX3_begin 42 = .ok (.return_, 1) := by decide +kernel
set_option maxRecDepth 20000 in
theorem ggX4_init_X2_init : GoodIn wsX4_init wsX2_init := goodIn_r _ [22, 23, 2, 3, 24, 25, 26, 27, 28, 29, 30, 31, 32, 33, 34, 35, 36, 37, 38, 39, 74, 75, 76, 77, 78, 79, 80, 81, 82, 83, 84, 85] (by decide +kernel) (by decide +kernel)
set_option maxRecDepth 20000 in
theorem gX4_init_X2_init : GoodIn wsX4_init (wsX2_init) := ggX4_init_X2_init
set_option maxRecDepth 20000 in
theorem ggX4_init_X0_init : GoodIn wsX4_init wsX0_init := goodIn_r _ [42, 43, 2, 3, 44, 24, 45, 46, 47, 48, 49, 93, 94, 95, 96, 97, 98] (by decide +kernel) (by decide +kernel)
set_option maxRecDepth 20000 in
theorem gX4_init_X0_init : GoodIn wsX4_init (wsX0_init) := ggX4_init_X0_init
set_option maxRecDepth 20000 in
theorem ggX4_init_X1_init : GoodIn wsX4_init wsX1_init := goodIn_r _ [52, 53, 2, 3, 24, 54, 55, 56, 57, 58, 59, 60, 61, 62, 63, 64, 65, 66, 67, 68, 69, 70, 71, 72, 73, 37, 38, 39, 99, 100, 101, 102, 103, 104, 105, 106, 107] (by decide +kernel) (by decide +kernel)
set_option maxRecDepth 20000 in
theorem gX4_init_X1_init : GoodIn wsX4_init (wsX1_init) := ggX4_init_X1_init
theorem dX4_init_0 : decode cX4_init 0 = .ok (.aload_n 0, 1) := by decide +kernel
theorem dX4_init_1 : decode cX4_init 1 = .ok (.invokespecial 3, 3) := by decide +kernel
theorem dX4_init_4 : decode cX4_init 4 = .ok (.aload_n 0, 1) := by decide +kernel
theorem dX4_init_5 : decode cX4_init 5 = .ok (.new 9, 3) := by decide +kernel
theorem dX4_init_8 : decode cX4_init 8 = .ok (.dup, 1) := by decide +kernel
theorem dX4_init_9 : decode cX4_init 9 = .ok (.invokespecial 11, 3) := by decide +kernel
theorem dX4_init_12 : decode cX4_init 12 = .ok (.putfield 12, 3) := by decide +kernel
theorem dX4_init_15 : decode cX4_init 15 = .ok (.aload_n 0, 1) := by decide +kernel
theorem dX4_init_16 : decode cX4_init 16 = .ok (.new 16, 3) := by decide +kernel
theorem dX4_init_19 : decode cX4_init 19 = .ok (.dup, 1) := by decide +kernel
theorem dX4_init_20 : decode cX4_init 20 = .ok (.aload_n 0, 1) := by decide +kernel
theorem dX4_init_21 : decode cX4_init 21 = .ok (.getfield 12, 3) := by decide +kernel
theorem dX4_init_24 : decode cX4_init 24 = .ok (.invokespecial 18, 3) := by decide +kernel
theorem dX4_init_27 : decode cX4_init 27 = .ok (.putfield 21, 3) := by decide +kernel
theorem dX4_init_30 : decode cX4_init 30 = .ok (.aload_n 0, 1) := by decide +kernel
theorem dX4_init_31 : decode cX4_init 31 = .ok (.new 25, 3) := by decide +kernel
theorem dX4_init_34 : decode cX4_init 34 = .ok (.dup, 1) := by decide +kernel
theorem dX4_init_35 : decode cX4_init 35 = .ok (.invokespecial 27, 3) := by decide +kernel
theorem dX4_init_38 : decode cX4_init 38 = .ok (.putfield 28, 3) := by decide +kernel
theorem dX4_init_41 : decode cX4_init 41 = .ok (.aload_n 0, 1) := by decide +kernel
theorem dX4_init_42 : decode cX4_init 42 = .ok (.bipush 7, 2) := by decide +kernel
theorem dX4_init_44 : decode cX4_init 44 = .ok (.anewarray 9, 3) := by decide +kernel
theorem dX4_init_47 : decode cX4_init 47 = .ok (.putfield 32, 3) := by decide +kernel
theorem dX4_init_50 : decode cX4_init 50 = .ok (.iconst 0, 1) := by decide +kernel
theorem dX4_init_51 : decode cX4_init 51 = .ok (.istore_n 1, 1) := by decide +kernel
theorem dX4_init_52 : decode cX4_init 52 = .ok (.iload_n 1, 1) := by decide +kernel
theorem dX4_init_53 : decode cX4_init 53 = .ok (.aload_n 0, 1) := by decide +kernel
theorem dX4_init_54 : decode cX4_init 54 = .ok (.getfield 32, 3) := by decide +kernel
theorem dX4_init_57 : decode cX4_init 57 = .ok (.arraylength, 1) := by decide +kernel
theorem dX4_init_58 : decode cX4_init 58 = .ok (.if_icmp .ge 22, 3) := by decide +kernel
theorem dX4_init_61 : decode cX4_init 61 = .ok (.aload_n 0, 1) := by decide +kernel
theorem dX4_init_62 : decode cX4_init 62 = .ok (.getfield 32, 3) := by decide +kernel
theorem dX4_init_65 : decode cX4_init 65 = .ok (.iload_n 1, 1) := by decide +kernel
theorem dX4_init_66 : decode cX4_init 66 = .ok (.new 9, 3) := by decide +kernel
theorem dX4_init_69 : decode cX4_init 69 = .ok (.dup, 1) := by decide +kernel
theorem dX4_init_70 : decode cX4_init 70 = .ok (.invokespecial 11, 3) := by decide +kernel
theorem dX4_init_73 : decode cX4_init 73 = .ok (.aastore, 1) := by decide +kernel
theorem dX4_init_74 : decode cX4_init 74 = .ok (.iinc 1 1, 3) := by decide +kernel
theorem dX4_init_77 : decode cX4_init 77 = .ok (.goto (-25), 3) := by decide +kernel
theorem dX4_init_80 : decode cX4_init 80 = .ok (.aload_n 0, 1) := by decide +kernel
theorem dX4_init_81 : decode cX4_init 81 = .ok (.iconst 2, 1) := by decide +kernel
theorem dX4_init_82 : decode cX4_init 82 = .ok (.anewarray 9, 3) := by decide +kernel
theorem dX4_init_85 : decode cX4_init 85 = .ok (.putfield 36, 3) := by decide +kernel
theorem dX4_init_88 : decode cX4_init 88 = .ok (.aload_n 0, 1) := by decide +kernel
theorem dX4_init_89 : decode cX4_init 89 = .ok (.iconst 0, 1) := by decide +kernel
theorem dX4_init_90 : decode cX4_init 90 = .ok (.putfield 39, 3) := by decide +kernel
theorem dX4_init_93 : decode cX4_init 93 = .ok (.aload_n 0, 1) := by decide +kernel
theorem dX4_init_94 : decode cX4_init 94 = .ok (.iconst 0, 1) := by decide +kernel
theorem dX4_init_95 : decode cX4_init 95 = .ok (.putfield 43, 3) := by decide +kernel
theorem dX4_init_98 : decode cX4_init 98 = .ok (.return_, 1) := by decide +kernel
set_option maxRecDepth 20000 in
theorem ggX4_set_X4_keepState : GoodIn wsX4_set wsX4_keepState := goodIn_r _ [6, 7, 8, 1, 9, 10, 5, 11, 12, 13, 14, 15, 16, 17, 18, 19, 20, 21, 22, 23, 24, 25, 26, 27, 28, 29, 30, 31, 32, 33, 34, 35, 36, 52, 53, 54, 55, 56, 57, 58, 59, 60, 61, 62, 63, 64, 65, 66, 67, 68, 69, 70] (by decide +kernel) (by decide +kernel)
set_option maxRecDepth 20000 in
theorem gX4_set_X4_keepState : GoodIn wsX4_set (wsV RX4 46 RX4 yX4_keepState wsX4_keepState) := goodIn_app (goodIn_of _ (by decide +kernel)) ggX4_set_X4_keepState
set_option maxRecDepth 20000 in
theorem ggX4_set_X2_changeSetting : GoodIn wsX4_set wsX2_changeSetting := goodIn_r _ [40, 17, 41, 5, 42, 43, 44, 45, 46, 59, 60, 61, 62, 63, 64, 65, 66, 67, 68, 69, 70] (by decide +kernel) (by decide +kernel)
set_option maxRecDepth 20000 in
theorem gX4_set_X2_changeSetting : GoodIn wsX4_set (wsV RX4 49 RX2 yX2_changeSetting wsX2_changeSetting) := goodIn_app (goodIn_of _ (by decide +kernel)) ggX4_set_X2_changeSetting
set_option maxRecDepth 20000 in
theorem ggX4_set_X4_recorded : GoodIn wsX4_set wsX4_recorded := goodIn_r _ [50, 8, 51, 29, 30, 31, 32, 52, 53, 54, 55, 56, 57, 58] (by decide +kernel) (by decide +kernel)
set_option maxRecDepth 20000 in
theorem gX4_set_X4_recorded : GoodIn wsX4_set (wsV RX4 53 RX4 yX4_recorded wsX4_recorded) := goodIn_app (goodIn_of _ (by decide +kernel)) ggX4_set_X4_recorded
theorem dX4_set_0 : decode cX4_set 0 = .ok (.aload_n 0, 1) := by decide +kernel
theorem dX4_set_1 : decode cX4_set 1 = .ok (.invokevirtual 46, 3) := by decide +kernel
theorem dX4_set_4 : decode cX4_set 4 = .ok (.aload_n 0, 1) := by decide +kernel
theorem dX4_set_5 : decode cX4_set 5 = .ok (.aload_n 0, 1) := by decide +kernel
theorem dX4_set_6 : decode cX4_set 6 = .ok (.getfield 12, 3) := by decide +kernel
theorem dX4_set_9 : decode cX4_set 9 = .ok (.iload_n 1, 1) := by decide +kernel
theorem dX4_set_10 : decode cX4_set 10 = .ok (.iload_n 2, 1) := by decide +kernel
theorem dX4_set_11 : decode cX4_set 11 = .ok (.invokevirtual 49, 3) := by decide +kernel
theorem dX4_set_14 : decode cX4_set 14 = .ok (.invokevirtual 53, 3) := by decide +kernel
theorem dX4_set_17 : decode cX4_set 17 = .ok (.ireturn, 1) := by decide +kernel
set_option maxRecDepth 20000 in
theorem ggX4_fill_X4_keepState : GoodIn wsX4_fill wsX4_keepState := goodIn_r _ [6, 7, 8, 1, 9, 10, 5, 11, 12, 13, 14, 15, 16, 17, 18, 19, 20, 21, 22, 23, 24, 25, 26, 27, 28, 29, 30, 31, 32, 33, 34, 35, 36, 62, 63, 64, 65, 66, 67, 68, 69, 70, 71, 72, 73, 74, 75, 76, 77, 78, 79, 80] (by decide +kernel) (by decide +kernel)
set_option maxRecDepth 20000 in
theorem gX4_fill_X4_keepState : GoodIn wsX4_fill (wsV RX4 46 RX4 yX4_keepState wsX4_keepState) := goodIn_app (goodIn_of _ (by decide +kernel)) ggX4_fill_X4_keepState
set_option maxRecDepth 20000 in
theorem ggX4_fill_X2_addDrops : GoodIn wsX4_fill wsX2_addDrops := goodIn_r _ [40, 18, 23, 41, 5, 42, 43, 44, 45, 46, 47, 15, 48, 49, 50, 51, 52, 53, 54, 55, 56, 69, 70, 71, 72, 73, 74, 75, 76, 77, 78, 79, 80] (by decide +kernel) (by decide +kernel)
set_option maxRecDepth 20000 in
theorem gX4_fill_X2_addDrops : GoodIn wsX4_fill (wsV RX4 57 RX2 yX2_addDrops wsX2_addDrops) := goodIn_app (goodIn_of _ (by decide +kernel)) ggX4_fill_X2_addDrops
set_option maxRecDepth 20000 in
theorem ggX4_fill_X4_recorded : GoodIn wsX4_fill wsX4_recorded := goodIn_r _ [60, 8, 61, 29, 30, 31, 32, 62, 63, 64, 65, 66, 67, 68] (by decide +kernel) (by decide +kernel)
set_option maxRecDepth 20000 in
theorem gX4_fill_X4_recorded : GoodIn wsX4_fill (wsV RX4 53 RX4 yX4_recorded wsX4_recorded) := goodIn_app (goodIn_of _ (by decide +kernel)) ggX4_fill_X4_recorded
theorem dX4_fill_0 : decode cX4_fill 0 = .ok (.aload_n 0, 1) := by decide +kernel
theorem dX4_fill_1 : decode cX4_fill 1 = .ok (.invokevirtual 46, 3) := by decide +kernel
theorem dX4_fill_4 : decode cX4_fill 4 = .ok (.aload_n 0, 1) := by decide +kernel
theorem dX4_fill_5 : decode cX4_fill 5 = .ok (.aload_n 0, 1) := by decide +kernel
theorem dX4_fill_6 : decode cX4_fill 6 = .ok (.getfield 12, 3) := by decide +kernel
theorem dX4_fill_9 : decode cX4_fill 9 = .ok (.iload_n 1, 1) := by decide +kernel
theorem dX4_fill_10 : decode cX4_fill 10 = .ok (.iload_n 2, 1) := by decide +kernel
theorem dX4_fill_11 : decode cX4_fill 11 = .ok (.iload_n 3, 1) := by decide +kernel
theorem dX4_fill_12 : decode cX4_fill 12 = .ok (.invokevirtual 57, 3) := by decide +kernel
theorem dX4_fill_15 : decode cX4_fill 15 = .ok (.invokevirtual 53, 3) := by decide +kernel
theorem dX4_fill_18 : decode cX4_fill 18 = .ok (.ireturn, 1) := by decide +kernel
set_option maxRecDepth 20000 in
theorem ggX4_thin_X4_keepState : GoodIn wsX4_thin wsX4_keepState := goodIn_r _ [6, 7, 8, 1, 9, 10, 5, 11, 12, 13, 14, 15, 16, 17, 18, 19, 20, 21, 22, 23, 24, 25, 26, 27, 28, 29, 30, 31, 32, 33, 34, 35, 36, 60, 61, 62, 63, 64, 65, 66, 67, 68, 69, 70, 71, 72, 73, 74, 75, 76, 77, 78] (by decide +kernel) (by decide +kernel)
set_option maxRecDepth 20000 in
theorem gX4_thin_X4_keepState : GoodIn wsX4_thin (wsV RX4 46 RX4 yX4_keepState wsX4_keepState) := goodIn_app (goodIn_of _ (by decide +kernel)) ggX4_thin_X4_keepState
set_option maxRecDepth 20000 in
theorem ggX4_thin_X2_thinPot : GoodIn wsX4_thin wsX2_thinPot := goodIn_r _ [40, 18, 19, 23, 41, 5, 42, 43, 44, 45, 15, 46, 47, 48, 49, 50, 51, 52, 53, 54, 67, 68, 69, 70, 71, 72, 73, 74, 75, 76, 77, 78] (by decide +kernel) (by decide +kernel)
set_option maxRecDepth 20000 in
theorem gX4_thin_X2_thinPot : GoodIn wsX4_thin (wsV RX4 61 RX2 yX2_thinPot wsX2_thinPot) := goodIn_app (goodIn_of _ (by decide +kernel)) ggX4_thin_X2_thinPot
set_option maxRecDepth 20000 in
theorem ggX4_thin_X4_recorded : GoodIn wsX4_thin wsX4_recorded := goodIn_r _ [58, 8, 59, 29, 30, 31, 32, 60, 61, 62, 63, 64, 65, 66] (by decide +kernel) (by decide +kernel)
set_option maxRecDepth 20000 in
theorem gX4_thin_X4_recorded : GoodIn wsX4_thin (wsV RX4 53 RX4 yX4_recorded wsX4_recorded) := goodIn_app (goodIn_of _ (by decide +kernel)) ggX4_thin_X4_recorded
theorem dX4_thin_0 : decode cX4_thin 0 = .ok (.aload_n 0, 1) := by decide +kernel
theorem dX4_thin_1 : decode cX4_thin 1 = .ok (.invokevirtual 46, 3) := by decide +kernel
theorem dX4_thin_4 : decode cX4_thin 4 = .ok (.aload_n 0, 1) := by decide +kernel
theorem dX4_thin_5 : decode cX4_thin 5 = .ok (.aload_n 0, 1) := by decide +kernel
theorem dX4_thin_6 : decode cX4_thin 6 = .ok (.getfield 12, 3) := by decide +kernel
theorem dX4_thin_9 : decode cX4_thin 9 = .ok (.iload_n 1, 1) := by decide +kernel
theorem dX4_thin_10 : decode cX4_thin 10 = .ok (.invokevirtual 61, 3) := by decide +kernel
theorem dX4_thin_13 : decode cX4_thin 13 = .ok (.invokevirtual 53, 3) := by decide +kernel
theorem dX4_thin_16 : decode cX4_thin 16 = .ok (.ireturn, 1) := by decide +kernel
set_option maxRecDepth 20000 in
theorem ggX4_pour_X4_keepState : GoodIn wsX4_pour wsX4_keepState := goodIn_r _ [6, 7, 8, 1, 9, 10, 5, 11, 12, 13, 14, 15, 16, 17, 18, 19, 20, 21, 22, 23, 24, 25, 26, 27, 28, 29, 30, 31, 32, 33, 34, 35, 36, 80, 81, 82, 83, 84, 85, 86, 87, 88, 89, 90, 91, 92, 93, 94, 95, 96, 97, 98] (by decide +kernel) (by decide +kernel)
set_option maxRecDepth 20000 in
theorem gX4_pour_X4_keepState : GoodIn wsX4_pour (wsV RX4 46 RX4 yX4_keepState wsX4_keepState) := goodIn_app (goodIn_of _ (by decide +kernel)) ggX4_pour_X4_keepState
set_option maxRecDepth 20000 in
theorem ggX4_pour_X2_pourOver : GoodIn wsX4_pour wsX2_pourOver := goodIn_r _ [40, 41, 5, 42, 43, 44, 45, 46, 47, 15, 48, 18, 49, 50, 51, 52, 53, 54, 55, 56, 57, 58, 59, 60, 61, 62, 63, 64, 65, 66, 67, 68, 69, 70, 71, 72, 73, 74, 87, 88, 89, 90, 91, 92, 93, 94, 95, 96, 97, 98] (by decide +kernel) (by decide +kernel)
set_option maxRecDepth 20000 in
theorem gX4_pour_X2_pourOver : GoodIn wsX4_pour (wsV RX4 64 RX2 yX2_pourOver wsX2_pourOver) := goodIn_app (goodIn_of _ (by decide +kernel)) ggX4_pour_X2_pourOver
set_option maxRecDepth 20000 in
theorem ggX4_pour_X4_recorded : GoodIn wsX4_pour wsX4_recorded := goodIn_r _ [78, 8, 79, 29, 30, 31, 32, 80, 81, 82, 83, 84, 85, 86] (by decide +kernel) (by decide +kernel)
set_option maxRecDepth 20000 in
theorem gX4_pour_X4_recorded : GoodIn wsX4_pour (wsV RX4 53 RX4 yX4_recorded wsX4_recorded) := goodIn_app (goodIn_of _ (by decide +kernel)) ggX4_pour_X4_recorded
theorem dX4_pour_0 : decode cX4_pour 0 = .ok (.aload_n 0, 1) := by decide +kernel
theorem dX4_pour_1 : decode cX4_pour 1 = .ok (.invokevirtual 46, 3) := by decide +kernel
theorem dX4_pour_4 : decode cX4_pour 4 = .ok (.aload_n 0, 1) := by decide +kernel
theorem dX4_pour_5 : decode cX4_pour 5 = .ok (.aload_n 0, 1) := by decide +kernel
theorem dX4_pour_6 : decode cX4_pour 6 = .ok (.getfield 12, 3) := by decide +kernel
theorem dX4_pour_9 : decode cX4_pour 9 = .ok (.iload_n 1, 1) := by decide +kernel
theorem dX4_pour_10 : decode cX4_pour 10 = .ok (.iload_n 2, 1) := by decide +kernel
theorem dX4_pour_11 : decode cX4_pour 11 = .ok (.iload_n 3, 1) := by decide +kernel
theorem dX4_pour_12 : decode cX4_pour 12 = .ok (.invokevirtual 64, 3) := by decide +kernel
theorem dX4_pour_15 : decode cX4_pour 15 = .ok (.invokevirtual 53, 3) := by decide +kernel
theorem dX4_pour_18 : decode cX4_pour 18 = .ok (.ireturn, 1) := by decide +kernel
set_option maxRecDepth 20000 in
theorem ggX4_empty_X4_keepState : GoodIn wsX4_empty wsX4_keepState := goodIn_r _ [6, 7, 8, 1, 9, 10, 5, 11, 12, 13, 14, 15, 16, 17, 18, 19, 20, 21, 22, 23, 24, 25, 26, 27, 28, 29, 30, 31, 32, 33, 34, 35, 36, 58, 59, 60, 61, 62, 63, 64, 65, 66, 67, 68, 69, 70, 71, 72, 73, 74, 75, 76] (by decide +kernel) (by decide +kernel)
set_option maxRecDepth 20000 in
theorem gX4_empty_X4_keepState : GoodIn wsX4_empty (wsV RX4 46 RX4 yX4_keepState wsX4_keepState) := goodIn_app (goodIn_of _ (by decide +kernel)) ggX4_empty_X4_keepState
set_option maxRecDepth 20000 in
theorem ggX4_empty_X2_emptyPot : GoodIn wsX4_empty wsX2_emptyPot := goodIn_r _ [40, 41, 5, 42, 43, 44, 45, 15, 46, 18, 25, 47, 48, 49, 50, 51, 52, 65, 66, 67, 68, 69, 70, 71, 72, 73, 74, 75, 76] (by decide +kernel) (by decide +kernel)
set_option maxRecDepth 20000 in
theorem gX4_empty_X2_emptyPot : GoodIn wsX4_empty (wsV RX4 67 RX2 yX2_emptyPot wsX2_emptyPot) := goodIn_app (goodIn_of _ (by decide +kernel)) ggX4_empty_X2_emptyPot
set_option maxRecDepth 20000 in
theorem ggX4_empty_X4_recorded : GoodIn wsX4_empty wsX4_recorded := goodIn_r _ [56, 8, 57, 29, 30, 31, 32, 58, 59, 60, 61, 62, 63, 64] (by decide +kernel) (by decide +kernel)
set_option maxRecDepth 20000 in
theorem gX4_empty_X4_recorded : GoodIn wsX4_empty (wsV RX4 53 RX4 yX4_recorded wsX4_recorded) := goodIn_app (goodIn_of _ (by decide +kernel)) ggX4_empty_X4_recorded
theorem dX4_empty_0 : decode cX4_empty 0 = .ok (.aload_n 0, 1) := by decide +kernel
theorem dX4_empty_1 : decode cX4_empty 1 = .ok (.invokevirtual 46, 3) := by decide +kernel
theorem dX4_empty_4 : decode cX4_empty 4 = .ok (.aload_n 0, 1) := by decide +kernel
theorem dX4_empty_5 : decode cX4_empty 5 = .ok (.aload_n 0, 1) := by decide +kernel
theorem dX4_empty_6 : decode cX4_empty 6 = .ok (.getfield 12, 3) := by decide +kernel
theorem dX4_empty_9 : decode cX4_empty 9 = .ok (.iload_n 1, 1) := by decide +kernel
theorem dX4_empty_10 : decode cX4_empty 10 = .ok (.invokevirtual 67, 3) := by decide +kernel
theorem dX4_empty_13 : decode cX4_empty 13 = .ok (.invokevirtual 53, 3) := by decide +kernel
theorem dX4_empty_16 : decode cX4_empty 16 = .ok (.ireturn, 1) := by decide +kernel
set_option maxRecDepth 20000 in
theorem ggX4_dip_X4_keepState : GoodIn wsX4_dip wsX4_keepState := goodIn_r _ [6, 7, 8, 1, 9, 10, 5, 11, 12, 13, 14, 15, 16, 17, 18, 19, 20, 21, 22, 23, 24, 25, 26, 27, 28, 29, 30, 31, 32, 33, 34, 35, 36, 80, 81, 82, 83, 84, 85, 86, 87, 88, 89, 90, 91, 92, 93, 94, 95, 96, 97, 98] (by decide +kernel) (by decide +kernel)
set_option maxRecDepth 20000 in
theorem gX4_dip_X4_keepState : GoodIn wsX4_dip (wsV RX4 46 RX4 yX4_keepState wsX4_keepState) := goodIn_app (goodIn_of _ (by decide +kernel)) ggX4_dip_X4_keepState
set_option maxRecDepth 20000 in
theorem ggX4_dip_X2_dipBrush : GoodIn wsX4_dip wsX2_dipBrush := goodIn_r _ [40, 41, 5, 42, 43, 44, 45, 46, 47, 15, 48, 18, 49, 50, 51, 52, 53, 54, 55, 56, 57, 58, 59, 60, 61, 62, 63, 64, 65, 66, 67, 68, 69, 70, 71, 72, 73, 74, 87, 88, 89, 90, 91, 92, 93, 94, 95, 96, 97, 98] (by decide +kernel) (by decide +kernel)
set_option maxRecDepth 20000 in
theorem gX4_dip_X2_dipBrush : GoodIn wsX4_dip (wsV RX4 70 RX2 yX2_dipBrush wsX2_dipBrush) := goodIn_app (goodIn_of _ (by decide +kernel)) ggX4_dip_X2_dipBrush
set_option maxRecDepth 20000 in
theorem ggX4_dip_X4_recorded : GoodIn wsX4_dip wsX4_recorded := goodIn_r _ [78, 8, 79, 29, 30, 31, 32, 80, 81, 82, 83, 84, 85, 86] (by decide +kernel) (by decide +kernel)
set_option maxRecDepth 20000 in
theorem gX4_dip_X4_recorded : GoodIn wsX4_dip (wsV RX4 53 RX4 yX4_recorded wsX4_recorded) := goodIn_app (goodIn_of _ (by decide +kernel)) ggX4_dip_X4_recorded
theorem dX4_dip_0 : decode cX4_dip 0 = .ok (.aload_n 0, 1) := by decide +kernel
theorem dX4_dip_1 : decode cX4_dip 1 = .ok (.invokevirtual 46, 3) := by decide +kernel
theorem dX4_dip_4 : decode cX4_dip 4 = .ok (.aload_n 0, 1) := by decide +kernel
theorem dX4_dip_5 : decode cX4_dip 5 = .ok (.aload_n 0, 1) := by decide +kernel
theorem dX4_dip_6 : decode cX4_dip 6 = .ok (.getfield 12, 3) := by decide +kernel
theorem dX4_dip_9 : decode cX4_dip 9 = .ok (.iload_n 1, 1) := by decide +kernel
theorem dX4_dip_10 : decode cX4_dip 10 = .ok (.iload_n 2, 1) := by decide +kernel
theorem dX4_dip_11 : decode cX4_dip 11 = .ok (.invokevirtual 70, 3) := by decide +kernel
theorem dX4_dip_14 : decode cX4_dip 14 = .ok (.invokevirtual 53, 3) := by decide +kernel
theorem dX4_dip_17 : decode cX4_dip 17 = .ok (.ireturn, 1) := by decide +kernel
set_option maxRecDepth 20000 in
theorem ggX4_paint_X4_keepState : GoodIn wsX4_paint wsX4_keepState := goodIn_r _ [6, 7, 8, 1, 9, 10, 5, 11, 12, 13, 14, 15, 16, 17, 18, 19, 20, 21, 22, 23, 24, 25, 26, 27, 28, 29, 30, 31, 32, 33, 34, 35, 36, 89, 90, 91, 92, 93, 94, 95, 96, 97, 98, 99, 100, 101, 102, 103, 104, 105, 106, 107] (by decide +kernel) (by decide +kernel)
set_option maxRecDepth 20000 in
theorem gX4_paint_X4_keepState : GoodIn wsX4_paint (wsV RX4 46 RX4 yX4_keepState wsX4_keepState) := goodIn_app (goodIn_of _ (by decide +kernel)) ggX4_paint_X4_keepState
set_option maxRecDepth 20000 in
theorem ggX4_paint_X2_paintPanel : GoodIn wsX4_paint wsX2_paintPanel := goodIn_r _ [40, 17, 21, 22, 24, 41, 5, 42, 43, 44, 45, 46, 47, 15, 48, 18, 49, 50, 51, 52, 53, 54, 55, 56, 57, 58, 59, 60, 61, 62, 63, 64, 65, 66, 67, 68, 69, 70, 71, 72, 73, 74, 75, 76, 77, 78, 79, 80, 20, 81, 82, 31, 83, 96, 97, 98, 99, 100, 101, 102, 103, 104, 105, 106, 107] (by decide +kernel) (by decide +kernel)
set_option maxRecDepth 20000 in
theorem gX4_paint_X2_paintPanel : GoodIn wsX4_paint (wsV RX4 73 RX2 yX2_paintPanel wsX2_paintPanel) := goodIn_app (goodIn_of _ (by decide +kernel)) ggX4_paint_X2_paintPanel
set_option maxRecDepth 20000 in
theorem ggX4_paint_X4_recorded : GoodIn wsX4_paint wsX4_recorded := goodIn_r _ [87, 8, 88, 29, 30, 31, 32, 89, 90, 91, 92, 93, 94, 95] (by decide +kernel) (by decide +kernel)
set_option maxRecDepth 20000 in
theorem gX4_paint_X4_recorded : GoodIn wsX4_paint (wsV RX4 53 RX4 yX4_recorded wsX4_recorded) := goodIn_app (goodIn_of _ (by decide +kernel)) ggX4_paint_X4_recorded
theorem dX4_paint_0 : decode cX4_paint 0 = .ok (.aload_n 0, 1) := by decide +kernel
theorem dX4_paint_1 : decode cX4_paint 1 = .ok (.invokevirtual 46, 3) := by decide +kernel
theorem dX4_paint_4 : decode cX4_paint 4 = .ok (.aload_n 0, 1) := by decide +kernel
theorem dX4_paint_5 : decode cX4_paint 5 = .ok (.aload_n 0, 1) := by decide +kernel
theorem dX4_paint_6 : decode cX4_paint 6 = .ok (.getfield 12, 3) := by decide +kernel
theorem dX4_paint_9 : decode cX4_paint 9 = .ok (.iload_n 1, 1) := by decide +kernel
theorem dX4_paint_10 : decode cX4_paint 10 = .ok (.invokevirtual 73, 3) := by decide +kernel
theorem dX4_paint_13 : decode cX4_paint 13 = .ok (.invokevirtual 53, 3) := by decide +kernel
theorem dX4_paint_16 : decode cX4_paint 16 = .ok (.ireturn, 1) := by decide +kernel
set_option maxRecDepth 20000 in
theorem ggX4_rinse_X4_keepState : GoodIn wsX4_rinse wsX4_keepState := goodIn_r _ [6, 7, 8, 1, 9, 10, 5, 11, 12, 13, 14, 15, 16, 17, 18, 19, 20, 21, 22, 23, 24, 25, 26, 27, 28, 29, 30, 31, 32, 33, 34, 35, 36, 56, 57, 58, 59, 60, 61, 62, 63, 64, 65, 66, 67, 68, 69, 70, 71, 72, 73, 74] (by decide +kernel) (by decide +kernel)
set_option maxRecDepth 20000 in
theorem gX4_rinse_X4_keepState : GoodIn wsX4_rinse (wsV RX4 46 RX4 yX4_keepState wsX4_keepState) := goodIn_app (goodIn_of _ (by decide +kernel)) ggX4_rinse_X4_keepState
set_option maxRecDepth 20000 in
theorem ggX4_rinse_X2_rinseBrush : GoodIn wsX4_rinse wsX2_rinseBrush := goodIn_r _ [40, 26, 41, 42, 43, 15, 44, 18, 25, 45, 46, 47, 48, 49, 5, 50, 63, 64, 65, 66, 67, 68, 69, 70, 71, 72, 73, 74] (by decide +kernel) (by decide +kernel)
set_option maxRecDepth 20000 in
theorem gX4_rinse_X2_rinseBrush : GoodIn wsX4_rinse (wsV RX4 76 RX2 yX2_rinseBrush wsX2_rinseBrush) := goodIn_app (goodIn_of _ (by decide +kernel)) ggX4_rinse_X2_rinseBrush
set_option maxRecDepth 20000 in
theorem ggX4_rinse_X4_recorded : GoodIn wsX4_rinse wsX4_recorded := goodIn_r _ [54, 8, 55, 29, 30, 31, 32, 56, 57, 58, 59, 60, 61, 62] (by decide +kernel) (by decide +kernel)
set_option maxRecDepth 20000 in
theorem gX4_rinse_X4_recorded : GoodIn wsX4_rinse (wsV RX4 53 RX4 yX4_recorded wsX4_recorded) := goodIn_app (goodIn_of _ (by decide +kernel)) ggX4_rinse_X4_recorded
theorem dX4_rinse_0 : decode cX4_rinse 0 = .ok (.aload_n 0, 1) := by decide +kernel
theorem dX4_rinse_1 : decode cX4_rinse 1 = .ok (.invokevirtual 46, 3) := by decide +kernel
theorem dX4_rinse_4 : decode cX4_rinse 4 = .ok (.aload_n 0, 1) := by decide +kernel
theorem dX4_rinse_5 : decode cX4_rinse 5 = .ok (.aload_n 0, 1) := by decide +kernel
theorem dX4_rinse_6 : decode cX4_rinse 6 = .ok (.getfield 12, 3) := by decide +kernel
theorem dX4_rinse_9 : decode cX4_rinse 9 = .ok (.invokevirtual 76, 3) := by decide +kernel
theorem dX4_rinse_12 : decode cX4_rinse 12 = .ok (.invokevirtual 53, 3) := by decide +kernel
theorem dX4_rinse_15 : decode cX4_rinse 15 = .ok (.ireturn, 1) := by decide +kernel
set_option maxRecDepth 20000 in
theorem ggX4_want_X4_keepState : GoodIn wsX4_want wsX4_keepState := goodIn_r _ [6, 7, 8, 1, 9, 10, 5, 11, 12, 13, 14, 15, 16, 17, 18, 19, 20, 21, 22, 23, 24, 25, 26, 27, 28, 29, 30, 31, 32, 33, 34, 35, 36, 80, 81, 82, 83, 84, 85, 86, 87, 88, 89, 90, 91, 92, 93, 94, 95, 96, 97, 98] (by decide +kernel) (by decide +kernel)
set_option maxRecDepth 20000 in
theorem gX4_want_X4_keepState : GoodIn wsX4_want (wsV RX4 46 RX4 yX4_keepState wsX4_keepState) := goodIn_app (goodIn_of _ (by decide +kernel)) ggX4_want_X4_keepState
set_option maxRecDepth 20000 in
theorem ggX4_want_X2_wantShade : GoodIn wsX4_want wsX2_wantShade := goodIn_r _ [40, 20, 41, 5, 42, 43, 44, 15, 45, 46, 47, 48, 49, 50, 51, 52, 53, 54, 55, 56, 57, 17, 58, 59, 60, 61, 22, 62, 63, 64, 65, 66, 67, 21, 68, 69, 70, 71, 72, 73, 31, 74, 87, 88, 89, 90, 91, 92, 93, 94, 95, 96, 97, 98] (by decide +kernel) (by decide +kernel)
set_option maxRecDepth 20000 in
theorem gX4_want_X2_wantShade : GoodIn wsX4_want (wsV RX4 80 RX2 yX2_wantShade wsX2_wantShade) := goodIn_app (goodIn_of _ (by decide +kernel)) ggX4_want_X2_wantShade
set_option maxRecDepth 20000 in
theorem ggX4_want_X4_recorded : GoodIn wsX4_want wsX4_recorded := goodIn_r _ [78, 8, 79, 29, 30, 31, 32, 80, 81, 82, 83, 84, 85, 86] (by decide +kernel) (by decide +kernel)
set_option maxRecDepth 20000 in
theorem gX4_want_X4_recorded : GoodIn wsX4_want (wsV RX4 53 RX4 yX4_recorded wsX4_recorded) := goodIn_app (goodIn_of _ (by decide +kernel)) ggX4_want_X4_recorded
theorem dX4_want_0 : decode cX4_want 0 = .ok (.aload_n 0, 1) := by decide +kernel
theorem dX4_want_1 : decode cX4_want 1 = .ok (.invokevirtual 46, 3) := by decide +kernel
theorem dX4_want_4 : decode cX4_want 4 = .ok (.aload_n 0, 1) := by decide +kernel
theorem dX4_want_5 : decode cX4_want 5 = .ok (.aload_n 0, 1) := by decide +kernel
theorem dX4_want_6 : decode cX4_want 6 = .ok (.getfield 12, 3) := by decide +kernel
theorem dX4_want_9 : decode cX4_want 9 = .ok (.iload_n 1, 1) := by decide +kernel
theorem dX4_want_10 : decode cX4_want 10 = .ok (.iload_n 2, 1) := by decide +kernel
theorem dX4_want_11 : decode cX4_want 11 = .ok (.iload_n 3, 1) := by decide +kernel
theorem dX4_want_12 : decode cX4_want 12 = .ok (.iload 4, 2) := by decide +kernel
theorem dX4_want_14 : decode cX4_want 14 = .ok (.invokevirtual 80, 3) := by decide +kernel
theorem dX4_want_17 : decode cX4_want 17 = .ok (.invokevirtual 53, 3) := by decide +kernel
theorem dX4_want_20 : decode cX4_want 20 = .ok (.ireturn, 1) := by decide +kernel
set_option maxRecDepth 20000 in
theorem ggX4_run_X1_firstFault : GoodIn wsX4_run wsX1_firstFault := goodIn_r _ [6, 7, 8, 9, 10, 11, 5, 12, 13, 14, 15, 16, 17, 18, 19, 20, 21, 22, 23, 24, 25, 26, 27, 28, 29, 30, 31, 32, 33, 34, 35, 36, 37, 38, 39, 40, 41, 42, 43, 44, 45, 46, 47, 48, 49, 50, 51, 52, 53, 54, 55, 56, 57, 58, 59, 60, 61, 62, 63, 64, 65, 66, 67, 68, 69, 70, 71, 72, 73, 74, 75, 76, 218, 219, 220, 221, 222, 223, 224, 225, 226] (by decide +kernel) (by decide +kernel)
set_option maxRecDepth 20000 in
theorem gX4_run_X1_firstFault : GoodIn wsX4_run (wsV RX4 84 RX1 yX1_firstFault wsX1_firstFault) := goodIn_app (goodIn_of _ (by decide +kernel)) ggX4_run_X1_firstFault
set_option maxRecDepth 20000 in
theorem ggX4_run_X4_keepState : GoodIn wsX4_run wsX4_keepState := goodIn_r _ [80, 81, 82, 83, 84, 85, 24, 86, 87, 88, 89, 90, 91, 92, 93, 94, 95, 96, 97, 98, 99, 100, 101, 102, 103, 104, 51, 52, 53, 105, 106, 107, 108, 211, 212, 213, 214, 215, 216, 217, 227, 228, 229, 230, 231, 232, 233, 234, 235, 236, 237, 238] (by decide +kernel) (by decide +kernel)
set_option maxRecDepth 20000 in
theorem gX4_run_X4_keepState : GoodIn wsX4_run (wsV RX4 46 RX4 yX4_keepState wsX4_keepState) := goodIn_app (goodIn_of _ (by decide +kernel)) ggX4_run_X4_keepState
set_option maxRecDepth 20000 in
theorem ggX4_run_X1_readFirst : GoodIn wsX4_run wsX1_readFirst := goodIn_r _ [112, 7, 9, 10, 11, 5, 12, 13, 14, 15, 16, 17, 18, 19, 20, 21, 8, 22, 23, 24, 25, 26, 27, 28, 29, 30, 31, 32, 33, 34, 35, 36, 37, 38, 39, 40, 41, 42, 43, 44, 45, 46, 47, 48, 49, 50, 51, 52, 53, 54, 55, 56, 57, 58, 59, 60, 61, 62, 63, 64, 65, 66, 67, 68, 69, 70, 71, 72, 73, 74, 75, 76, 218, 219, 220, 221, 222, 223, 224, 225, 226] (by decide +kernel) (by decide +kernel)
set_option maxRecDepth 20000 in
theorem gX4_run_X1_readFirst : GoodIn wsX4_run (wsV RX4 87 RX1 yX1_readFirst wsX1_readFirst) := goodIn_app (goodIn_of _ (by decide +kernel)) ggX4_run_X1_readFirst
set_option maxRecDepth 20000 in
theorem ggX4_run_X1_lastRead : GoodIn wsX4_run wsX1_lastRead := goodIn_r _ [116, 13, 218, 219, 220, 221] (by decide +kernel) (by decide +kernel)
set_option maxRecDepth 20000 in
theorem gX4_run_X1_lastRead : GoodIn wsX4_run (wsV RX4 91 RX1 yX1_lastRead wsX1_lastRead) := goodIn_app (goodIn_of _ (by decide +kernel)) ggX4_run_X1_lastRead
set_option maxRecDepth 20000 in
theorem ggX4_run_X4_didWork : GoodIn wsX4_run wsX4_didWork := goodIn_r _ [120, 83, 121, 122, 123, 24, 124, 125, 126, 127, 128, 129, 130, 90, 131, 93, 98, 132, 133, 23, 25, 134, 135, 136, 137, 138, 139, 140, 36, 37, 141, 142, 143, 144, 94, 145, 146, 147, 148, 149, 150, 151, 152, 153, 154, 155, 156, 157, 158, 159, 160, 161, 162, 163, 164, 165, 166, 167, 168, 169, 170, 171, 172, 173, 174, 92, 96, 97, 99, 175, 176, 177, 178, 179, 180, 181, 182, 183, 184, 185, 186, 95, 187, 188, 52, 189, 190, 191, 192, 193, 101, 194, 195, 196, 197, 100, 222, 223, 224, 225, 226, 211, 212, 213, 214, 215, 216, 217, 227, 228, 229, 230, 231, 232, 233, 234, 235, 236, 237, 238] (by decide +kernel) (by decide +kernel)
set_option maxRecDepth 20000 in
theorem gX4_run_X4_didWork : GoodIn wsX4_run (wsV RX4 95 RX4 yX4_didWork wsX4_didWork) := goodIn_app (goodIn_of _ (by decide +kernel)) ggX4_run_X4_didWork
set_option maxRecDepth 20000 in
theorem ggX4_run_X1_readNext : GoodIn wsX4_run wsX1_readNext := goodIn_r _ [201, 65, 66, 67, 5, 68, 7, 18, 19, 20, 21, 8, 22, 9, 10, 11, 12, 13, 14, 15, 16, 17, 23, 24, 25, 26, 27, 28, 29, 30, 31, 32, 33, 34, 35, 36, 37, 38, 39, 40, 41, 42, 43, 44, 45, 46, 47, 48, 49, 50, 51, 52, 53, 54, 55, 56, 57, 58, 59, 60, 61, 62, 63, 64, 69, 70, 71, 72, 73, 74, 75, 76, 218, 219, 220, 221, 222, 223, 224, 225, 226] (by decide +kernel) (by decide +kernel)
set_option maxRecDepth 20000 in
theorem gX4_run_X1_readNext : GoodIn wsX4_run (wsV RX4 99 RX1 yX1_readNext wsX1_readNext) := goodIn_app (goodIn_of _ (by decide +kernel)) ggX4_run_X1_readNext
set_option maxRecDepth 20000 in
theorem ggX4_run_X1_clear : GoodIn wsX4_run wsX1_clear := goodIn_r _ [205, 8, 218, 219, 220, 221] (by decide +kernel) (by decide +kernel)
set_option maxRecDepth 20000 in
theorem gX4_run_X1_clear : GoodIn wsX4_run (wsV RX4 102 RX1 yX1_clear wsX1_clear) := goodIn_app (goodIn_of _ (by decide +kernel)) ggX4_run_X1_clear
set_option maxRecDepth 20000 in
theorem ggX4_run_X4_recorded : GoodIn wsX4_run wsX4_recorded := goodIn_r _ [209, 82, 210, 104, 51, 52, 53, 211, 212, 213, 214, 215, 216, 217] (by decide +kernel) (by decide +kernel)
set_option maxRecDepth 20000 in
theorem gX4_run_X4_recorded : GoodIn wsX4_run (wsV RX4 53 RX4 yX4_recorded wsX4_recorded) := goodIn_app (goodIn_of _ (by decide +kernel)) ggX4_run_X4_recorded
theorem dX4_run_0 : decode cX4_run 0 = .ok (.aload_n 0, 1) := by decide +kernel
theorem dX4_run_1 : decode cX4_run 1 = .ok (.getfield 28, 3) := by decide +kernel
theorem dX4_run_4 : decode cX4_run 4 = .ok (.invokevirtual 84, 3) := by decide +kernel
theorem dX4_run_7 : decode cX4_run 7 = .ok (.bipush (-6), 2) := by decide +kernel
theorem dX4_run_9 : decode cX4_run 9 = .ok (.if_icmp .eq 6, 3) := by decide +kernel
theorem dX4_run_12 : decode cX4_run 12 = .ok (.bipush (-3), 2) := by decide +kernel
theorem dX4_run_14 : decode cX4_run 14 = .ok (.ireturn, 1) := by decide +kernel
theorem dX4_run_15 : decode cX4_run 15 = .ok (.aload_n 0, 1) := by decide +kernel
theorem dX4_run_16 : decode cX4_run 16 = .ok (.invokevirtual 46, 3) := by decide +kernel
theorem dX4_run_19 : decode cX4_run 19 = .ok (.iconst 0, 1) := by decide +kernel
theorem dX4_run_20 : decode cX4_run 20 = .ok (.istore_n 1, 1) := by decide +kernel
theorem dX4_run_21 : decode cX4_run 21 = .ok (.aload_n 0, 1) := by decide +kernel
theorem dX4_run_22 : decode cX4_run 22 = .ok (.getfield 28, 3) := by decide +kernel
theorem dX4_run_25 : decode cX4_run 25 = .ok (.invokevirtual 87, 3) := by decide +kernel
theorem dX4_run_28 : decode cX4_run 28 = .ok (.istore_n 2, 1) := by decide +kernel
theorem dX4_run_29 : decode cX4_run 29 = .ok (.iconst 0, 1) := by decide +kernel
theorem dX4_run_30 : decode cX4_run 30 = .ok (.istore_n 3, 1) := by decide +kernel
theorem dX4_run_31 : decode cX4_run 31 = .ok (.iload_n 3, 1) := by decide +kernel
theorem dX4_run_32 : decode cX4_run 32 = .ok (.bipush 60, 2) := by decide +kernel
theorem dX4_run_34 : decode cX4_run 34 = .ok (.if_icmp .ge 43, 3) := by decide +kernel
theorem dX4_run_37 : decode cX4_run 37 = .ok (.iload_n 2, 1) := by decide +kernel
theorem dX4_run_38 : decode cX4_run 38 = .ok (.ifCond .eq 39, 3) := by decide +kernel
theorem dX4_run_41 : decode cX4_run 41 = .ok (.iload_n 1, 1) := by decide +kernel
theorem dX4_run_42 : decode cX4_run 42 = .ok (.aload_n 0, 1) := by decide +kernel
theorem dX4_run_43 : decode cX4_run 43 = .ok (.aload_n 0, 1) := by decide +kernel
theorem dX4_run_44 : decode cX4_run 44 = .ok (.getfield 28, 3) := by decide +kernel
theorem dX4_run_47 : decode cX4_run 47 = .ok (.invokevirtual 91, 3) := by decide +kernel
theorem dX4_run_50 : decode cX4_run 50 = .ok (.invokevirtual 95, 3) := by decide +kernel
theorem dX4_run_53 : decode cX4_run 53 = .ok (.ifCond .eq 7, 3) := by decide +kernel
theorem dX4_run_56 : decode cX4_run 56 = .ok (.iconst 1, 1) := by decide +kernel
theorem dX4_run_57 : decode cX4_run 57 = .ok (.goto 4, 3) := by decide +kernel
theorem dX4_run_60 : decode cX4_run 60 = .ok (.iconst 0, 1) := by decide +kernel
theorem dX4_run_61 : decode cX4_run 61 = .ok (.iadd, 1) := by decide +kernel
theorem dX4_run_62 : decode cX4_run 62 = .ok (.istore_n 1, 1) := by decide +kernel
theorem dX4_run_63 : decode cX4_run 63 = .ok (.aload_n 0, 1) := by decide +kernel
theorem dX4_run_64 : decode cX4_run 64 = .ok (.getfield 28, 3) := by decide +kernel
theorem dX4_run_67 : decode cX4_run 67 = .ok (.invokevirtual 99, 3) := by decide +kernel
theorem dX4_run_70 : decode cX4_run 70 = .ok (.istore_n 2, 1) := by decide +kernel
theorem dX4_run_71 : decode cX4_run 71 = .ok (.iinc 3 1, 3) := by decide +kernel
theorem dX4_run_74 : decode cX4_run 74 = .ok (.goto (-43), 3) := by decide +kernel
theorem dX4_run_77 : decode cX4_run 77 = .ok (.aload_n 0, 1) := by decide +kernel
theorem dX4_run_78 : decode cX4_run 78 = .ok (.getfield 28, 3) := by decide +kernel
theorem dX4_run_81 : decode cX4_run 81 = .ok (.invokevirtual 102, 3) := by decide +kernel
theorem dX4_run_84 : decode cX4_run 84 = .ok (.pop, 1) := by decide +kernel
theorem dX4_run_85 : decode cX4_run 85 = .ok (.aload_n 0, 1) := by decide +kernel
theorem dX4_run_86 : decode cX4_run 86 = .ok (.iload_n 1, 1) := by decide +kernel
theorem dX4_run_87 : decode cX4_run 87 = .ok (.invokevirtual 53, 3) := by decide +kernel
theorem dX4_run_90 : decode cX4_run 90 = .ok (.ireturn, 1) := by decide +kernel
set_option maxRecDepth 20000 in
theorem ggX4_pot_X4_isWithin : GoodIn wsX4_pot wsX4_isWithin := goodIn_r _ [5] (by decide +kernel) (by decide +kernel)
set_option maxRecDepth 20000 in
theorem gX4_pot_X4_isWithin : GoodIn wsX4_pot (va_wsS RX4 105 yX4_isWithin wsX4_isWithin) := goodIn_app (goodIn_of _ (by decide +kernel)) ggX4_pot_X4_isWithin
set_option maxRecDepth 20000 in
theorem ggX4_pot_X2_timesThinned : GoodIn wsX4_pot wsX2_timesThinned := goodIn_r _ [10, 11, 12, 4, 13, 46, 47, 48, 49, 50, 51, 52, 53, 54, 55, 56, 57] (by decide +kernel) (by decide +kernel)
set_option maxRecDepth 20000 in
theorem gX4_pot_X2_timesThinned : GoodIn wsX4_pot (wsV RX4 109 RX2 yX2_timesThinned wsX2_timesThinned) := goodIn_app (goodIn_of _ (by decide +kernel)) ggX4_pot_X2_timesThinned
set_option maxRecDepth 20000 in
theorem ggX4_pot_X2_aboutPaint : GoodIn wsX4_pot wsX2_aboutPaint := goodIn_r _ [17, 18, 4, 19, 20, 21, 22, 9, 23, 24, 12, 13, 25, 26, 27, 28, 29, 30, 31, 32, 33, 34, 35, 36, 37, 38, 46, 47, 48, 49, 50, 51, 52, 53, 54, 55, 56, 57] (by decide +kernel) (by decide +kernel)
set_option maxRecDepth 20000 in
theorem gX4_pot_X2_aboutPaint : GoodIn wsX4_pot (wsV RX4 112 RX2 yX2_aboutPaint wsX2_aboutPaint) := goodIn_app (goodIn_of _ (by decide +kernel)) ggX4_pot_X2_aboutPaint
theorem dX4_pot_0 : decode cX4_pot 0 = .ok (.iload_n 1, 1) := by decide +kernel
theorem dX4_pot_1 : decode cX4_pot 1 = .ok (.bipush 8, 2) := by decide +kernel
theorem dX4_pot_3 : decode cX4_pot 3 = .ok (.invokestatic 105, 3) := by decide +kernel
theorem dX4_pot_6 : decode cX4_pot 6 = .ok (.ifCond .ne 5, 3) := by decide +kernel
theorem dX4_pot_9 : decode cX4_pot 9 = .ok (.iconst (-1), 1) := by decide +kernel
theorem dX4_pot_10 : decode cX4_pot 10 = .ok (.ireturn, 1) := by decide +kernel
theorem dX4_pot_11 : decode cX4_pot 11 = .ok (.iload_n 2, 1) := by decide +kernel
theorem dX4_pot_12 : decode cX4_pot 12 = .ok (.bipush 8, 2) := by decide +kernel
theorem dX4_pot_14 : decode cX4_pot 14 = .ok (.if_icmp .ne 12, 3) := by decide +kernel
theorem dX4_pot_17 : decode cX4_pot 17 = .ok (.aload_n 0, 1) := by decide +kernel
theorem dX4_pot_18 : decode cX4_pot 18 = .ok (.getfield 12, 3) := by decide +kernel
theorem dX4_pot_21 : decode cX4_pot 21 = .ok (.iload_n 1, 1) := by decide +kernel
theorem dX4_pot_22 : decode cX4_pot 22 = .ok (.invokevirtual 109, 3) := by decide +kernel
theorem dX4_pot_25 : decode cX4_pot 25 = .ok (.ireturn, 1) := by decide +kernel
theorem dX4_pot_26 : decode cX4_pot 26 = .ok (.aload_n 0, 1) := by decide +kernel
theorem dX4_pot_27 : decode cX4_pot 27 = .ok (.getfield 12, 3) := by decide +kernel
theorem dX4_pot_30 : decode cX4_pot 30 = .ok (.iload_n 1, 1) := by decide +kernel
theorem dX4_pot_31 : decode cX4_pot 31 = .ok (.iload_n 2, 1) := by decide +kernel
theorem dX4_pot_32 : decode cX4_pot 32 = .ok (.invokevirtual 112, 3) := by decide +kernel
theorem dX4_pot_35 : decode cX4_pot 35 = .ok (.ireturn, 1) := by decide +kernel
set_option maxRecDepth 20000 in
theorem ggX4_brush_X2_aboutPaint : GoodIn wsX4_brush wsX2_aboutPaint := goodIn_r _ [6, 7, 8, 9, 10, 11, 12, 5, 13, 14, 15, 16, 17, 18, 19, 20, 21, 22, 23, 24, 25, 26, 27, 28, 29, 30, 38, 39, 40, 41, 42, 43, 44, 45, 46, 47, 48, 49] (by decide +kernel) (by decide +kernel)
set_option maxRecDepth 20000 in
theorem gX4_brush_X2_aboutPaint : GoodIn wsX4_brush (wsV RX4 112 RX2 yX2_aboutPaint wsX2_aboutPaint) := goodIn_app (goodIn_of _ (by decide +kernel)) ggX4_brush_X2_aboutPaint
theorem dX4_brush_0 : decode cX4_brush 0 = .ok (.aload_n 0, 1) := by decide +kernel
theorem dX4_brush_1 : decode cX4_brush 1 = .ok (.getfield 12, 3) := by decide +kernel
theorem dX4_brush_4 : decode cX4_brush 4 = .ok (.bipush 8, 2) := by decide +kernel
theorem dX4_brush_6 : decode cX4_brush 6 = .ok (.iload_n 1, 1) := by decide +kernel
theorem dX4_brush_7 : decode cX4_brush 7 = .ok (.invokevirtual 112, 3) := by decide +kernel
theorem dX4_brush_10 : decode cX4_brush 10 = .ok (.ireturn, 1) := by decide +kernel
set_option maxRecDepth 20000 in
theorem ggX4_panel_X4_isWithin : GoodIn wsX4_panel wsX4_isWithin := goodIn_r _ [5] (by decide +kernel) (by decide +kernel)
set_option maxRecDepth 20000 in
theorem gX4_panel_X4_isWithin : GoodIn wsX4_panel (va_wsS RX4 105 yX4_isWithin wsX4_isWithin) := goodIn_app (goodIn_of _ (by decide +kernel)) ggX4_panel_X4_isWithin
set_option maxRecDepth 20000 in
theorem ggX4_panel_X2_aboutPanel : GoodIn wsX4_panel wsX2_aboutPanel := goodIn_r _ [10, 11, 12, 13, 14, 4, 15, 16, 17, 18, 19, 20, 9, 21, 22, 23, 24, 25, 26, 27, 28, 29, 30, 31, 32, 33, 34, 35, 36, 37, 38, 46, 47, 48, 49, 50, 51, 52, 53, 54, 55, 56, 57] (by decide +kernel) (by decide +kernel)
set_option maxRecDepth 20000 in
theorem gX4_panel_X2_aboutPanel : GoodIn wsX4_panel (wsV RX4 115 RX2 yX2_aboutPanel wsX2_aboutPanel) := goodIn_app (goodIn_of _ (by decide +kernel)) ggX4_panel_X2_aboutPanel
theorem dX4_panel_0 : decode cX4_panel 0 = .ok (.iload_n 1, 1) := by decide +kernel
theorem dX4_panel_1 : decode cX4_panel 1 = .ok (.bipush 6, 2) := by decide +kernel
theorem dX4_panel_3 : decode cX4_panel 3 = .ok (.invokestatic 105, 3) := by decide +kernel
theorem dX4_panel_6 : decode cX4_panel 6 = .ok (.ifCond .ne 5, 3) := by decide +kernel
theorem dX4_panel_9 : decode cX4_panel 9 = .ok (.iconst (-1), 1) := by decide +kernel
theorem dX4_panel_10 : decode cX4_panel 10 = .ok (.ireturn, 1) := by decide +kernel
theorem dX4_panel_11 : decode cX4_panel 11 = .ok (.aload_n 0, 1) := by decide +kernel
theorem dX4_panel_12 : decode cX4_panel 12 = .ok (.getfield 12, 3) := by decide +kernel
theorem dX4_panel_15 : decode cX4_panel 15 = .ok (.iload_n 1, 1) := by decide +kernel
theorem dX4_panel_16 : decode cX4_panel 16 = .ok (.iload_n 2, 1) := by decide +kernel
theorem dX4_panel_17 : decode cX4_panel 17 = .ok (.invokevirtual 115, 3) := by decide +kernel
theorem dX4_panel_20 : decode cX4_panel 20 = .ok (.ireturn, 1) := by decide +kernel
set_option maxRecDepth 20000 in
theorem ggX4_count_X1_length : GoodIn wsX4_count wsX1_length := goodIn_r _ [8, 9, 74, 75, 76, 77] (by decide +kernel) (by decide +kernel)
set_option maxRecDepth 20000 in
theorem gX4_count_X1_length : GoodIn wsX4_count (wsV RX4 118 RX1 yX1_length wsX1_length) := goodIn_app (goodIn_of _ (by decide +kernel)) ggX4_count_X1_length
set_option maxRecDepth 20000 in
theorem ggX4_count_X2_account : GoodIn wsX4_count wsX2_account := goodIn_r _ [14, 15, 16, 17, 18, 19, 20, 21, 22, 23, 24, 25, 13, 26, 27, 28, 29, 30, 31, 32, 33, 34, 35, 36, 37, 38, 39, 40, 41, 42, 43, 44, 45, 46, 47, 48, 49, 50, 51, 52, 53, 54, 55, 56, 57, 58, 59, 60, 61, 62, 63, 64, 65, 66, 78, 79, 80, 81, 82, 83, 84, 85, 86, 87, 88, 89] (by decide +kernel) (by decide +kernel)
set_option maxRecDepth 20000 in
theorem gX4_count_X2_account : GoodIn wsX4_count (wsV RX4 121 RX2 yX2_account wsX2_account) := goodIn_app (goodIn_of _ (by decide +kernel)) ggX4_count_X2_account
theorem dX4_count_0 : decode cX4_count 0 = .ok (.iload_n 1, 1) := by decide +kernel
theorem dX4_count_1 : decode cX4_count 1 = .ok (.bipush 10, 2) := by decide +kernel
theorem dX4_count_3 : decode cX4_count 3 = .ok (.if_icmp .ne 11, 3) := by decide +kernel
theorem dX4_count_6 : decode cX4_count 6 = .ok (.aload_n 0, 1) := by decide +kernel
theorem dX4_count_7 : decode cX4_count 7 = .ok (.getfield 28, 3) := by decide +kernel
theorem dX4_count_10 : decode cX4_count 10 = .ok (.invokevirtual 118, 3) := by decide +kernel
theorem dX4_count_13 : decode cX4_count 13 = .ok (.ireturn, 1) := by decide +kernel
theorem dX4_count_14 : decode cX4_count 14 = .ok (.iload_n 1, 1) := by decide +kernel
theorem dX4_count_15 : decode cX4_count 15 = .ok (.bipush 11, 2) := by decide +kernel
theorem dX4_count_17 : decode cX4_count 17 = .ok (.if_icmp .ne 8, 3) := by decide +kernel
theorem dX4_count_20 : decode cX4_count 20 = .ok (.aload_n 0, 1) := by decide +kernel
theorem dX4_count_21 : decode cX4_count 21 = .ok (.getfield 43, 3) := by decide +kernel
theorem dX4_count_24 : decode cX4_count 24 = .ok (.ireturn, 1) := by decide +kernel
theorem dX4_count_25 : decode cX4_count 25 = .ok (.aload_n 0, 1) := by decide +kernel
theorem dX4_count_26 : decode cX4_count 26 = .ok (.getfield 12, 3) := by decide +kernel
theorem dX4_count_29 : decode cX4_count 29 = .ok (.iload_n 1, 1) := by decide +kernel
theorem dX4_count_30 : decode cX4_count 30 = .ok (.invokevirtual 121, 3) := by decide +kernel
theorem dX4_count_33 : decode cX4_count 33 = .ok (.ireturn, 1) := by decide +kernel
set_option maxRecDepth 20000 in
theorem ggX4_nearest_X4_isWithin : GoodIn wsX4_nearest wsX4_isWithin := goodIn_r _ [6] (by decide +kernel) (by decide +kernel)
set_option maxRecDepth 20000 in
theorem gX4_nearest_X4_isWithin : GoodIn wsX4_nearest (va_wsS RX4 105 yX4_isWithin wsX4_isWithin) := goodIn_app (goodIn_of _ (by decide +kernel)) ggX4_nearest_X4_isWithin
set_option maxRecDepth 20000 in
theorem ggX4_nearest_X0_nearestPot : GoodIn wsX4_nearest wsX0_nearestPot := goodIn_r _ [11, 12, 13, 14, 15, 16, 17, 18, 19, 20, 21, 22, 23, 24, 25, 26, 27, 28, 29, 30, 31, 5, 32, 33, 34, 35, 36, 37, 38, 39, 40, 41, 42, 43, 52, 53, 54, 55, 56, 57, 58, 59, 60, 61, 62, 63, 64, 65, 66, 67, 68, 69] (by decide +kernel) (by decide +kernel)
set_option maxRecDepth 20000 in
theorem gX4_nearest_X0_nearestPot : GoodIn wsX4_nearest (wsV RX4 124 RX0 yX0_nearestPot wsX0_nearestPot) := goodIn_app (goodIn_of _ (by decide +kernel)) ggX4_nearest_X0_nearestPot
set_option maxRecDepth 20000 in
theorem ggX4_nearest_X2_distanceOfPaint : GoodIn wsX4_nearest wsX2_distanceOfPaint := goodIn_r _ [26, 27, 28, 29, 16, 30, 22, 31, 5, 32, 18, 19, 20, 21, 33, 34, 35, 36, 37, 38, 39, 40, 41, 42, 43, 58, 59, 60, 61, 62, 63, 64, 65, 66, 67, 68, 69] (by decide +kernel) (by decide +kernel)
set_option maxRecDepth 20000 in
theorem gX4_nearest_X2_distanceOfPaint : GoodIn wsX4_nearest (wsV RX4 127 RX2 yX2_distanceOfPaint wsX2_distanceOfPaint) := goodIn_app (goodIn_of _ (by decide +kernel)) ggX4_nearest_X2_distanceOfPaint
theorem dX4_nearest_0 : decode cX4_nearest 0 = .ok (.iload_n 1, 1) := by decide +kernel
theorem dX4_nearest_1 : decode cX4_nearest 1 = .ok (.bipush 6, 2) := by decide +kernel
theorem dX4_nearest_3 : decode cX4_nearest 3 = .ok (.invokestatic 105, 3) := by decide +kernel
theorem dX4_nearest_6 : decode cX4_nearest 6 = .ok (.ifCond .ne 5, 3) := by decide +kernel
theorem dX4_nearest_9 : decode cX4_nearest 9 = .ok (.iconst (-1), 1) := by decide +kernel
theorem dX4_nearest_10 : decode cX4_nearest 10 = .ok (.ireturn, 1) := by decide +kernel
theorem dX4_nearest_11 : decode cX4_nearest 11 = .ok (.iload_n 2, 1) := by decide +kernel
theorem dX4_nearest_12 : decode cX4_nearest 12 = .ok (.iconst 2, 1) := by decide +kernel
theorem dX4_nearest_13 : decode cX4_nearest 13 = .ok (.invokestatic 105, 3) := by decide +kernel
theorem dX4_nearest_16 : decode cX4_nearest 16 = .ok (.ifCond .ne 6, 3) := by decide +kernel
theorem dX4_nearest_19 : decode cX4_nearest 19 = .ok (.bipush (-2), 2) := by decide +kernel
theorem dX4_nearest_21 : decode cX4_nearest 21 = .ok (.ireturn, 1) := by decide +kernel
theorem dX4_nearest_22 : decode cX4_nearest 22 = .ok (.aload_n 0, 1) := by decide +kernel
theorem dX4_nearest_23 : decode cX4_nearest 23 = .ok (.getfield 21, 3) := by decide +kernel
theorem dX4_nearest_26 : decode cX4_nearest 26 = .ok (.iload_n 1, 1) := by decide +kernel
theorem dX4_nearest_27 : decode cX4_nearest 27 = .ok (.invokevirtual 124, 3) := by decide +kernel
theorem dX4_nearest_30 : decode cX4_nearest 30 = .ok (.istore_n 3, 1) := by decide +kernel
theorem dX4_nearest_31 : decode cX4_nearest 31 = .ok (.iload_n 3, 1) := by decide +kernel
theorem dX4_nearest_32 : decode cX4_nearest 32 = .ok (.bipush (-6), 2) := by decide +kernel
theorem dX4_nearest_34 : decode cX4_nearest 34 = .ok (.if_icmp .eq 7, 3) := by decide +kernel
theorem dX4_nearest_37 : decode cX4_nearest 37 = .ok (.iload_n 2, 1) := by decide +kernel
theorem dX4_nearest_38 : decode cX4_nearest 38 = .ok (.ifCond .ne 5, 3) := by decide +kernel
theorem dX4_nearest_41 : decode cX4_nearest 41 = .ok (.iload_n 3, 1) := by decide +kernel
theorem dX4_nearest_42 : decode cX4_nearest 42 = .ok (.ireturn, 1) := by decide +kernel
theorem dX4_nearest_43 : decode cX4_nearest 43 = .ok (.aload_n 0, 1) := by decide +kernel
theorem dX4_nearest_44 : decode cX4_nearest 44 = .ok (.getfield 12, 3) := by decide +kernel
theorem dX4_nearest_47 : decode cX4_nearest 47 = .ok (.iload_n 1, 1) := by decide +kernel
theorem dX4_nearest_48 : decode cX4_nearest 48 = .ok (.iload_n 3, 1) := by decide +kernel
theorem dX4_nearest_49 : decode cX4_nearest 49 = .ok (.invokevirtual 127, 3) := by decide +kernel
theorem dX4_nearest_52 : decode cX4_nearest 52 = .ok (.ireturn, 1) := by decide +kernel
set_option maxRecDepth 20000 in
theorem ggX4_bestThinning_X4_isWithin : GoodIn wsX4_bestThinning wsX4_isWithin := goodIn_r _ [6] (by decide +kernel) (by decide +kernel)
set_option maxRecDepth 20000 in
theorem gX4_bestThinning_X4_isWithin : GoodIn wsX4_bestThinning (va_wsS RX4 105 yX4_isWithin wsX4_isWithin) := goodIn_app (goodIn_of _ (by decide +kernel)) ggX4_bestThinning_X4_isWithin
set_option maxRecDepth 20000 in
theorem ggX4_bestThinning_X2_hasPaint : GoodIn wsX4_bestThinning wsX2_hasPaint := goodIn_r _ [11, 12, 13, 14, 10, 15, 16, 57, 58, 59, 60, 61, 62, 63, 64, 65, 66, 67, 68] (by decide +kernel) (by decide +kernel)
set_option maxRecDepth 20000 in
theorem gX4_bestThinning_X2_hasPaint : GoodIn wsX4_bestThinning (wsV RX4 130 RX2 yX2_hasPaint wsX2_hasPaint) := goodIn_app (goodIn_of _ (by decide +kernel)) ggX4_bestThinning_X2_hasPaint
set_option maxRecDepth 20000 in
theorem ggX4_bestThinning_X0_bestTimes : GoodIn wsX4_bestThinning wsX0_bestTimes := goodIn_r _ [21, 22, 23, 24, 25, 20, 26, 27, 13, 14, 10, 15, 16, 28, 29, 30, 31, 32, 33, 34, 35, 36, 5, 37, 38, 39, 40, 41, 42, 43, 44, 45, 46, 47, 48, 69, 70, 71, 72, 73, 74, 57, 58, 59, 60, 61, 62, 63, 64, 65, 66, 67, 68] (by decide +kernel) (by decide +kernel)
set_option maxRecDepth 20000 in
theorem gX4_bestThinning_X0_bestTimes : GoodIn wsX4_bestThinning (wsV RX4 134 RX0 yX0_bestTimes wsX0_bestTimes) := goodIn_app (goodIn_of _ (by decide +kernel)) ggX4_bestThinning_X0_bestTimes
set_option maxRecDepth 20000 in
theorem ggX4_bestThinning_X0_distanceThinned : GoodIn wsX4_bestThinning wsX0_distanceThinned := goodIn_r _ [26, 22, 27, 13, 14, 10, 15, 16, 28, 29, 30, 20, 31, 32, 33, 34, 35, 36, 5, 37, 38, 39, 40, 41, 42, 43, 44, 45, 46, 47, 48, 69, 70, 71, 72, 73, 74, 57, 58, 59, 60, 61, 62, 63, 64, 65, 66, 67, 68] (by decide +kernel) (by decide +kernel)
set_option maxRecDepth 20000 in
theorem gX4_bestThinning_X0_distanceThinned : GoodIn wsX4_bestThinning (wsV RX4 137 RX0 yX0_distanceThinned wsX0_distanceThinned) := goodIn_app (goodIn_of _ (by decide +kernel)) ggX4_bestThinning_X0_distanceThinned
theorem dX4_bestThinning_0 : decode cX4_bestThinning 0 = .ok (.iload_n 1, 1) := by decide +kernel
theorem dX4_bestThinning_1 : decode cX4_bestThinning 1 = .ok (.bipush 6, 2) := by decide +kernel
theorem dX4_bestThinning_3 : decode cX4_bestThinning 3 = .ok (.invokestatic 105, 3) := by decide +kernel
theorem dX4_bestThinning_6 : decode cX4_bestThinning 6 = .ok (.ifCond .eq 12, 3) := by decide +kernel
theorem dX4_bestThinning_9 : decode cX4_bestThinning 9 = .ok (.iload_n 2, 1) := by decide +kernel
theorem dX4_bestThinning_10 : decode cX4_bestThinning 10 = .ok (.bipush 8, 2) := by decide +kernel
theorem dX4_bestThinning_12 : decode cX4_bestThinning 12 = .ok (.invokestatic 105, 3) := by decide +kernel
theorem dX4_bestThinning_15 : decode cX4_bestThinning 15 = .ok (.ifCond .ne 5, 3) := by decide +kernel
theorem dX4_bestThinning_18 : decode cX4_bestThinning 18 = .ok (.iconst (-1), 1) := by decide +kernel
theorem dX4_bestThinning_19 : decode cX4_bestThinning 19 = .ok (.ireturn, 1) := by decide +kernel
theorem dX4_bestThinning_20 : decode cX4_bestThinning 20 = .ok (.iload_n 3, 1) := by decide +kernel
theorem dX4_bestThinning_21 : decode cX4_bestThinning 21 = .ok (.iconst 2, 1) := by decide +kernel
theorem dX4_bestThinning_22 : decode cX4_bestThinning 22 = .ok (.invokestatic 105, 3) := by decide +kernel
theorem dX4_bestThinning_25 : decode cX4_bestThinning 25 = .ok (.ifCond .ne 6, 3) := by decide +kernel
theorem dX4_bestThinning_28 : decode cX4_bestThinning 28 = .ok (.bipush (-2), 2) := by decide +kernel
theorem dX4_bestThinning_30 : decode cX4_bestThinning 30 = .ok (.ireturn, 1) := by decide +kernel
theorem dX4_bestThinning_31 : decode cX4_bestThinning 31 = .ok (.aload_n 0, 1) := by decide +kernel
theorem dX4_bestThinning_32 : decode cX4_bestThinning 32 = .ok (.getfield 12, 3) := by decide +kernel
theorem dX4_bestThinning_35 : decode cX4_bestThinning 35 = .ok (.iload_n 2, 1) := by decide +kernel
theorem dX4_bestThinning_36 : decode cX4_bestThinning 36 = .ok (.invokevirtual 130, 3) := by decide +kernel
theorem dX4_bestThinning_39 : decode cX4_bestThinning 39 = .ok (.ifCond .ne 6, 3) := by decide +kernel
theorem dX4_bestThinning_42 : decode cX4_bestThinning 42 = .ok (.bipush (-5), 2) := by decide +kernel
theorem dX4_bestThinning_44 : decode cX4_bestThinning 44 = .ok (.ireturn, 1) := by decide +kernel
theorem dX4_bestThinning_45 : decode cX4_bestThinning 45 = .ok (.aload_n 0, 1) := by decide +kernel
theorem dX4_bestThinning_46 : decode cX4_bestThinning 46 = .ok (.getfield 21, 3) := by decide +kernel
theorem dX4_bestThinning_49 : decode cX4_bestThinning 49 = .ok (.iload_n 1, 1) := by decide +kernel
theorem dX4_bestThinning_50 : decode cX4_bestThinning 50 = .ok (.iload_n 2, 1) := by decide +kernel
theorem dX4_bestThinning_51 : decode cX4_bestThinning 51 = .ok (.invokevirtual 134, 3) := by decide +kernel
theorem dX4_bestThinning_54 : decode cX4_bestThinning 54 = .ok (.istore 4, 2) := by decide +kernel
theorem dX4_bestThinning_56 : decode cX4_bestThinning 56 = .ok (.iload_n 3, 1) := by decide +kernel
theorem dX4_bestThinning_57 : decode cX4_bestThinning 57 = .ok (.ifCond .ne 6, 3) := by decide +kernel
theorem dX4_bestThinning_60 : decode cX4_bestThinning 60 = .ok (.iload 4, 2) := by decide +kernel
theorem dX4_bestThinning_62 : decode cX4_bestThinning 62 = .ok (.ireturn, 1) := by decide +kernel
theorem dX4_bestThinning_63 : decode cX4_bestThinning 63 = .ok (.aload_n 0, 1) := by decide +kernel
theorem dX4_bestThinning_64 : decode cX4_bestThinning 64 = .ok (.getfield 21, 3) := by decide +kernel
theorem dX4_bestThinning_67 : decode cX4_bestThinning 67 = .ok (.iload_n 1, 1) := by decide +kernel
theorem dX4_bestThinning_68 : decode cX4_bestThinning 68 = .ok (.iload_n 2, 1) := by decide +kernel
theorem dX4_bestThinning_69 : decode cX4_bestThinning 69 = .ok (.iload 4, 2) := by decide +kernel
theorem dX4_bestThinning_71 : decode cX4_bestThinning 71 = .ok (.invokevirtual 137, 3) := by decide +kernel
theorem dX4_bestThinning_74 : decode cX4_bestThinning 74 = .ok (.ireturn, 1) := by decide +kernel
set_option maxRecDepth 20000 in
theorem ggX4_bestMixture_X4_isWithin : GoodIn wsX4_bestMixture wsX4_isWithin := goodIn_r _ [5] (by decide +kernel) (by decide +kernel)
set_option maxRecDepth 20000 in
theorem gX4_bestMixture_X4_isWithin : GoodIn wsX4_bestMixture (va_wsS RX4 105 yX4_isWithin wsX4_isWithin) := goodIn_app (goodIn_of _ (by decide +kernel)) ggX4_bestMixture_X4_isWithin
set_option maxRecDepth 20000 in
theorem ggX4_bestMixture_X0_mixture : GoodIn wsX4_bestMixture wsX0_mixture := goodIn_r _ [10, 11, 12, 13, 4, 14, 15, 16, 17, 18, 19, 20, 21, 22, 23, 24, 25, 26, 27, 9, 28, 29, 30, 31, 32, 33, 34, 35, 36, 37, 38, 39, 40, 41, 42, 43, 44, 45, 46, 47, 48, 49, 50, 51, 52, 60, 61, 62, 63, 64, 65, 66, 67, 68, 69, 70, 71, 72, 73, 74, 75, 76, 77] (by decide +kernel) (by decide +kernel)
set_option maxRecDepth 20000 in
theorem gX4_bestMixture_X0_mixture : GoodIn wsX4_bestMixture (wsV RX4 140 RX0 yX0_mixture wsX0_mixture) := goodIn_app (goodIn_of _ (by decide +kernel)) ggX4_bestMixture_X0_mixture
theorem dX4_bestMixture_0 : decode cX4_bestMixture 0 = .ok (.iload_n 1, 1) := by decide +kernel
theorem dX4_bestMixture_1 : decode cX4_bestMixture 1 = .ok (.bipush 6, 2) := by decide +kernel
theorem dX4_bestMixture_3 : decode cX4_bestMixture 3 = .ok (.invokestatic 105, 3) := by decide +kernel
theorem dX4_bestMixture_6 : decode cX4_bestMixture 6 = .ok (.ifCond .ne 5, 3) := by decide +kernel
theorem dX4_bestMixture_9 : decode cX4_bestMixture 9 = .ok (.iconst (-1), 1) := by decide +kernel
theorem dX4_bestMixture_10 : decode cX4_bestMixture 10 = .ok (.ireturn, 1) := by decide +kernel
theorem dX4_bestMixture_11 : decode cX4_bestMixture 11 = .ok (.iload_n 2, 1) := by decide +kernel
theorem dX4_bestMixture_12 : decode cX4_bestMixture 12 = .ok (.iconst 5, 1) := by decide +kernel
theorem dX4_bestMixture_13 : decode cX4_bestMixture 13 = .ok (.invokestatic 105, 3) := by decide +kernel
theorem dX4_bestMixture_16 : decode cX4_bestMixture 16 = .ok (.ifCond .ne 6, 3) := by decide +kernel
theorem dX4_bestMixture_19 : decode cX4_bestMixture 19 = .ok (.bipush (-2), 2) := by decide +kernel
theorem dX4_bestMixture_21 : decode cX4_bestMixture 21 = .ok (.ireturn, 1) := by decide +kernel
theorem dX4_bestMixture_22 : decode cX4_bestMixture 22 = .ok (.aload_n 0, 1) := by decide +kernel
theorem dX4_bestMixture_23 : decode cX4_bestMixture 23 = .ok (.getfield 21, 3) := by decide +kernel
theorem dX4_bestMixture_26 : decode cX4_bestMixture 26 = .ok (.iload_n 1, 1) := by decide +kernel
theorem dX4_bestMixture_27 : decode cX4_bestMixture 27 = .ok (.iload_n 2, 1) := by decide +kernel
theorem dX4_bestMixture_28 : decode cX4_bestMixture 28 = .ok (.invokevirtual 140, 3) := by decide +kernel
theorem dX4_bestMixture_31 : decode cX4_bestMixture 31 = .ok (.ireturn, 1) := by decide +kernel
set_option maxRecDepth 20000 in
theorem ggX4_rinses_X4_isWithin : GoodIn wsX4_rinses wsX4_isWithin := goodIn_r _ [5] (by decide +kernel) (by decide +kernel)
set_option maxRecDepth 20000 in
theorem gX4_rinses_X4_isWithin : GoodIn wsX4_rinses (va_wsS RX4 105 yX4_isWithin wsX4_isWithin) := goodIn_app (goodIn_of _ (by decide +kernel)) ggX4_rinses_X4_isWithin
set_option maxRecDepth 20000 in
theorem ggX4_rinses_X0_rinsesFrom : GoodIn wsX4_rinses wsX0_rinsesFrom := goodIn_r _ [10, 11, 12, 13, 14, 9, 15, 16, 17, 18, 19, 20, 21, 22, 23, 24, 25, 26, 27, 28, 29, 30, 31, 32, 33, 34, 35, 36, 37, 38, 39, 4, 40, 41, 42, 43, 44, 45, 46, 47, 48, 49, 50, 51, 52, 53, 61, 62, 63, 64, 65, 66, 67, 68, 69, 70, 71, 72, 73, 74, 75, 76, 77, 78] (by decide +kernel) (by decide +kernel)
set_option maxRecDepth 20000 in
theorem gX4_rinses_X0_rinsesFrom : GoodIn wsX4_rinses (wsV RX4 143 RX0 yX0_rinsesFrom wsX0_rinsesFrom) := goodIn_app (goodIn_of _ (by decide +kernel)) ggX4_rinses_X0_rinsesFrom
theorem dX4_rinses_0 : decode cX4_rinses 0 = .ok (.iload_n 1, 1) := by decide +kernel
theorem dX4_rinses_1 : decode cX4_rinses 1 = .ok (.bipush 6, 2) := by decide +kernel
theorem dX4_rinses_3 : decode cX4_rinses 3 = .ok (.invokestatic 105, 3) := by decide +kernel
theorem dX4_rinses_6 : decode cX4_rinses 6 = .ok (.ifCond .ne 5, 3) := by decide +kernel
theorem dX4_rinses_9 : decode cX4_rinses 9 = .ok (.iconst (-1), 1) := by decide +kernel
theorem dX4_rinses_10 : decode cX4_rinses 10 = .ok (.ireturn, 1) := by decide +kernel
theorem dX4_rinses_11 : decode cX4_rinses 11 = .ok (.aload_n 0, 1) := by decide +kernel
theorem dX4_rinses_12 : decode cX4_rinses 12 = .ok (.getfield 21, 3) := by decide +kernel
theorem dX4_rinses_15 : decode cX4_rinses 15 = .ok (.iload_n 1, 1) := by decide +kernel
theorem dX4_rinses_16 : decode cX4_rinses 16 = .ok (.invokevirtual 143, 3) := by decide +kernel
theorem dX4_rinses_19 : decode cX4_rinses 19 = .ok (.ireturn, 1) := by decide +kernel
set_option maxRecDepth 20000 in
theorem ggX4_bestOrder_X4_isWithin : GoodIn wsX4_bestOrder wsX4_isWithin := goodIn_r _ [5] (by decide +kernel) (by decide +kernel)
set_option maxRecDepth 20000 in
theorem gX4_bestOrder_X4_isWithin : GoodIn wsX4_bestOrder (va_wsS RX4 105 yX4_isWithin wsX4_isWithin) := goodIn_app (goodIn_of _ (by decide +kernel)) ggX4_bestOrder_X4_isWithin
set_option maxRecDepth 20000 in
theorem ggX4_bestOrder_X0_panelInOrder : GoodIn wsX4_bestOrder wsX0_panelInOrder := goodIn_r _ [10, 11, 12, 13, 14, 15, 9, 16, 17, 18, 19, 20, 21, 22, 23, 24, 25, 26, 27, 28, 29, 30, 31, 32, 33, 34, 35, 36, 37, 38, 39, 40, 4, 41, 42, 43, 44, 45, 46, 47, 48, 49, 50, 51, 52, 53, 54, 55, 56, 57, 58, 66, 67, 68, 69, 70, 71, 72, 73, 74, 75, 76, 77, 78, 79, 80, 81, 82, 83] (by decide +kernel) (by decide +kernel)
set_option maxRecDepth 20000 in
theorem gX4_bestOrder_X0_panelInOrder : GoodIn wsX4_bestOrder (wsV RX4 146 RX0 yX0_panelInOrder wsX0_panelInOrder) := goodIn_app (goodIn_of _ (by decide +kernel)) ggX4_bestOrder_X0_panelInOrder
theorem dX4_bestOrder_0 : decode cX4_bestOrder 0 = .ok (.iload_n 1, 1) := by decide +kernel
theorem dX4_bestOrder_1 : decode cX4_bestOrder 1 = .ok (.bipush 6, 2) := by decide +kernel
theorem dX4_bestOrder_3 : decode cX4_bestOrder 3 = .ok (.invokestatic 105, 3) := by decide +kernel
theorem dX4_bestOrder_6 : decode cX4_bestOrder 6 = .ok (.ifCond .ne 6, 3) := by decide +kernel
theorem dX4_bestOrder_9 : decode cX4_bestOrder 9 = .ok (.bipush (-2), 2) := by decide +kernel
theorem dX4_bestOrder_11 : decode cX4_bestOrder 11 = .ok (.ireturn, 1) := by decide +kernel
theorem dX4_bestOrder_12 : decode cX4_bestOrder 12 = .ok (.aload_n 0, 1) := by decide +kernel
theorem dX4_bestOrder_13 : decode cX4_bestOrder 13 = .ok (.getfield 21, 3) := by decide +kernel
theorem dX4_bestOrder_16 : decode cX4_bestOrder 16 = .ok (.iload_n 1, 1) := by decide +kernel
theorem dX4_bestOrder_17 : decode cX4_bestOrder 17 = .ok (.invokevirtual 146, 3) := by decide +kernel
theorem dX4_bestOrder_20 : decode cX4_bestOrder 20 = .ok (.ireturn, 1) := by decide +kernel
set_option maxRecDepth 20000 in
theorem ggX4_put_X1_append : GoodIn wsX4_put wsX1_append := goodIn_r _ [6, 7, 8, 9, 10, 5, 11, 12, 13, 14, 15, 16, 17, 18, 19, 20, 28, 29, 30, 31] (by decide +kernel) (by decide +kernel)
set_option maxRecDepth 20000 in
theorem gX4_put_X1_append : GoodIn wsX4_put (wsV RX4 149 RX1 yX1_append wsX1_append) := goodIn_app (goodIn_of _ (by decide +kernel)) ggX4_put_X1_append
theorem dX4_put_0 : decode cX4_put 0 = .ok (.aload_n 0, 1) := by decide +kernel
theorem dX4_put_1 : decode cX4_put 1 = .ok (.getfield 28, 3) := by decide +kernel
theorem dX4_put_4 : decode cX4_put 4 = .ok (.lload_n 1, 1) := by decide +kernel
theorem dX4_put_5 : decode cX4_put 5 = .ok (.invokevirtual 149, 3) := by decide +kernel
theorem dX4_put_8 : decode cX4_put 8 = .ok (.ireturn, 1) := by decide +kernel
set_option maxRecDepth 20000 in
theorem ggX4_wipe_X1_clear : GoodIn wsX4_wipe wsX1_clear := goodIn_r _ [6, 7, 15, 16, 17, 18] (by decide +kernel) (by decide +kernel)
set_option maxRecDepth 20000 in
theorem gX4_wipe_X1_clear : GoodIn wsX4_wipe (wsV RX4 102 RX1 yX1_clear wsX1_clear) := goodIn_app (goodIn_of _ (by decide +kernel)) ggX4_wipe_X1_clear
theorem dX4_wipe_0 : decode cX4_wipe 0 = .ok (.aload_n 0, 1) := by decide +kernel
theorem dX4_wipe_1 : decode cX4_wipe 1 = .ok (.getfield 28, 3) := by decide +kernel
theorem dX4_wipe_4 : decode cX4_wipe 4 = .ok (.invokevirtual 102, 3) := by decide +kernel
theorem dX4_wipe_7 : decode cX4_wipe 7 = .ok (.ireturn, 1) := by decide +kernel
set_option maxRecDepth 20000 in
theorem ggX4_fault_X1_firstFault : GoodIn wsX4_fault wsX1_firstFault := goodIn_r _ [6, 7, 8, 9, 10, 11, 5, 12, 13, 14, 15, 16, 17, 18, 19, 20, 21, 22, 23, 24, 25, 26, 27, 28, 29, 30, 31, 32, 33, 34, 35, 36, 37, 38, 39, 40, 41, 42, 43, 44, 45, 46, 47, 48, 49, 50, 51, 52, 53, 54, 55, 56, 57, 58, 59, 60, 61, 62, 63, 64, 65, 66, 67, 68, 69, 70, 71, 72, 73, 74, 75, 76, 84, 85, 86, 87, 88, 89, 90, 91, 92] (by decide +kernel) (by decide +kernel)
set_option maxRecDepth 20000 in
theorem gX4_fault_X1_firstFault : GoodIn wsX4_fault (wsV RX4 84 RX1 yX1_firstFault wsX1_firstFault) := goodIn_app (goodIn_of _ (by decide +kernel)) ggX4_fault_X1_firstFault
theorem dX4_fault_0 : decode cX4_fault 0 = .ok (.aload_n 0, 1) := by decide +kernel
theorem dX4_fault_1 : decode cX4_fault 1 = .ok (.getfield 28, 3) := by decide +kernel
theorem dX4_fault_4 : decode cX4_fault 4 = .ok (.invokevirtual 84, 3) := by decide +kernel
theorem dX4_fault_7 : decode cX4_fault 7 = .ok (.ireturn, 1) := by decide +kernel
set_option maxRecDepth 20000 in
theorem ggX4_undo_X4_studioAt : GoodIn wsX4_undo wsX4_studioAt := goodIn_r _ [8] (by decide +kernel) (by decide +kernel)
set_option maxRecDepth 20000 in
theorem gX4_undo_X4_studioAt : GoodIn wsX4_undo (va_wsS RX4 153 yX4_studioAt wsX4_studioAt) := goodIn_app (goodIn_of _ (by decide +kernel)) ggX4_undo_X4_studioAt
set_option maxRecDepth 20000 in
theorem ggX4_undo_X2_copyFrom : GoodIn wsX4_undo wsX2_copyFrom := goodIn_r _ [13, 14, 15, 16, 17, 18, 19, 20, 21, 22, 23, 24, 7, 25, 26, 27, 28, 29, 30, 31, 32, 33, 41, 42, 43, 44, 45, 46, 47, 48, 49, 50, 51, 52] (by decide +kernel) (by decide +kernel)
set_option maxRecDepth 20000 in
theorem gX4_undo_X2_copyFrom : GoodIn wsX4_undo (wsV RX4 157 RX2 yX2_copyFrom wsX2_copyFrom) := goodIn_app (goodIn_of _ (by decide +kernel)) ggX4_undo_X2_copyFrom
theorem dX4_undo_0 : decode cX4_undo 0 = .ok (.aload_n 0, 1) := by decide +kernel
theorem dX4_undo_1 : decode cX4_undo 1 = .ok (.getfield 43, 3) := by decide +kernel
theorem dX4_undo_4 : decode cX4_undo 4 = .ok (.ifCond .ne 6, 3) := by decide +kernel
theorem dX4_undo_7 : decode cX4_undo 7 = .ok (.bipush (-5), 2) := by decide +kernel
theorem dX4_undo_9 : decode cX4_undo 9 = .ok (.ireturn, 1) := by decide +kernel
theorem dX4_undo_10 : decode cX4_undo 10 = .ok (.aload_n 0, 1) := by decide +kernel
theorem dX4_undo_11 : decode cX4_undo 11 = .ok (.dup, 1) := by decide +kernel
theorem dX4_undo_12 : decode cX4_undo 12 = .ok (.getfield 43, 3) := by decide +kernel
theorem dX4_undo_15 : decode cX4_undo 15 = .ok (.iconst 1, 1) := by decide +kernel
theorem dX4_undo_16 : decode cX4_undo 16 = .ok (.isub, 1) := by decide +kernel
theorem dX4_undo_17 : decode cX4_undo 17 = .ok (.putfield 43, 3) := by decide +kernel
theorem dX4_undo_20 : decode cX4_undo 20 = .ok (.aload_n 0, 1) := by decide +kernel
theorem dX4_undo_21 : decode cX4_undo 21 = .ok (.aload_n 0, 1) := by decide +kernel
theorem dX4_undo_22 : decode cX4_undo 22 = .ok (.getfield 39, 3) := by decide +kernel
theorem dX4_undo_25 : decode cX4_undo 25 = .ok (.ifCond .ne 8, 3) := by decide +kernel
theorem dX4_undo_28 : decode cX4_undo 28 = .ok (.bipush 6, 2) := by decide +kernel
theorem dX4_undo_30 : decode cX4_undo 30 = .ok (.goto 9, 3) := by decide +kernel
theorem dX4_undo_33 : decode cX4_undo 33 = .ok (.aload_n 0, 1) := by decide +kernel
theorem dX4_undo_34 : decode cX4_undo 34 = .ok (.getfield 39, 3) := by decide +kernel
theorem dX4_undo_37 : decode cX4_undo 37 = .ok (.iconst 1, 1) := by decide +kernel
theorem dX4_undo_38 : decode cX4_undo 38 = .ok (.isub, 1) := by decide +kernel
theorem dX4_undo_39 : decode cX4_undo 39 = .ok (.putfield 39, 3) := by decide +kernel
theorem dX4_undo_42 : decode cX4_undo 42 = .ok (.aload_n 0, 1) := by decide +kernel
theorem dX4_undo_43 : decode cX4_undo 43 = .ok (.getfield 12, 3) := by decide +kernel
theorem dX4_undo_46 : decode cX4_undo 46 = .ok (.aload_n 0, 1) := by decide +kernel
theorem dX4_undo_47 : decode cX4_undo 47 = .ok (.getfield 32, 3) := by decide +kernel
theorem dX4_undo_50 : decode cX4_undo 50 = .ok (.aload_n 0, 1) := by decide +kernel
theorem dX4_undo_51 : decode cX4_undo 51 = .ok (.getfield 39, 3) := by decide +kernel
theorem dX4_undo_54 : decode cX4_undo 54 = .ok (.invokestatic 153, 3) := by decide +kernel
theorem dX4_undo_57 : decode cX4_undo 57 = .ok (.invokevirtual 157, 3) := by decide +kernel
theorem dX4_undo_60 : decode cX4_undo 60 = .ok (.aload_n 0, 1) := by decide +kernel
theorem dX4_undo_61 : decode cX4_undo 61 = .ok (.getfield 43, 3) := by decide +kernel
theorem dX4_undo_64 : decode cX4_undo 64 = .ok (.ireturn, 1) := by decide +kernel
set_option maxRecDepth 20000 in
theorem ggX4_save_X2_init : GoodIn wsX4_save wsX2_init := goodIn_r _ [8, 9, 10, 11, 12, 13, 14, 15, 16, 17, 18, 19, 20, 21, 22, 23, 24, 25, 26, 27, 57, 58, 59, 60, 61, 62, 63, 64, 65, 66, 67, 68] (by decide +kernel) (by decide +kernel)
set_option maxRecDepth 20000 in
theorem gX4_save_X2_init : GoodIn wsX4_save (wsX2_init) := ggX4_save_X2_init
set_option maxRecDepth 20000 in
theorem ggX4_save_X2_copyFrom : GoodIn wsX4_save wsX2_copyFrom := goodIn_r _ [31, 13, 14, 15, 16, 17, 18, 19, 20, 21, 22, 32, 26, 33, 34, 35, 36, 37, 38, 39, 40, 41, 57, 58, 59, 60, 61, 62, 63, 64, 65, 66, 67, 68] (by decide +kernel) (by decide +kernel)
set_option maxRecDepth 20000 in
theorem gX4_save_X2_copyFrom : GoodIn wsX4_save (wsV RX4 157 RX2 yX2_copyFrom wsX2_copyFrom) := goodIn_app (goodIn_of _ (by decide +kernel)) ggX4_save_X2_copyFrom
set_option maxRecDepth 20000 in
theorem ggX4_save_X2_dropsInPots : GoodIn wsX4_save wsX2_dropsInPots := goodIn_r _ [45, 46, 47, 48, 4, 49, 14, 57, 58, 59, 60, 61, 62, 63, 64, 65, 66, 67, 68] (by decide +kernel) (by decide +kernel)
set_option maxRecDepth 20000 in
theorem gX4_save_X2_dropsInPots : GoodIn wsX4_save (wsV RX4 160 RX2 yX2_dropsInPots wsX2_dropsInPots) := goodIn_app (goodIn_of _ (by decide +kernel)) ggX4_save_X2_dropsInPots
theorem dX4_save_0 : decode cX4_save 0 = .ok (.iload_n 1, 1) := by decide +kernel
theorem dX4_save_1 : decode cX4_save 1 = .ok (.ifCond .lt 12, 3) := by decide +kernel
theorem dX4_save_4 : decode cX4_save 4 = .ok (.iload_n 1, 1) := by decide +kernel
theorem dX4_save_5 : decode cX4_save 5 = .ok (.aload_n 0, 1) := by decide +kernel
theorem dX4_save_6 : decode cX4_save 6 = .ok (.getfield 36, 3) := by decide +kernel
theorem dX4_save_9 : decode cX4_save 9 = .ok (.arraylength, 1) := by decide +kernel
theorem dX4_save_10 : decode cX4_save 10 = .ok (.if_icmp .lt 6, 3) := by decide +kernel
theorem dX4_save_13 : decode cX4_save 13 = .ok (.bipush (-2), 2) := by decide +kernel
theorem dX4_save_15 : decode cX4_save 15 = .ok (.ireturn, 1) := by decide +kernel
theorem dX4_save_16 : decode cX4_save 16 = .ok (.aload_n 0, 1) := by decide +kernel
theorem dX4_save_17 : decode cX4_save 17 = .ok (.getfield 36, 3) := by decide +kernel
theorem dX4_save_20 : decode cX4_save 20 = .ok (.iload_n 1, 1) := by decide +kernel
theorem dX4_save_21 : decode cX4_save 21 = .ok (.aaload, 1) := by decide +kernel
theorem dX4_save_22 : decode cX4_save 22 = .ok (.astore_n 2, 1) := by decide +kernel
theorem dX4_save_23 : decode cX4_save 23 = .ok (.aload_n 2, 1) := by decide +kernel
theorem dX4_save_24 : decode cX4_save 24 = .ok (.ifnonnull 18, 3) := by decide +kernel
theorem dX4_save_27 : decode cX4_save 27 = .ok (.new 9, 3) := by decide +kernel
theorem dX4_save_30 : decode cX4_save 30 = .ok (.dup, 1) := by decide +kernel
theorem dX4_save_31 : decode cX4_save 31 = .ok (.invokespecial 11, 3) := by decide +kernel
theorem dX4_save_34 : decode cX4_save 34 = .ok (.astore_n 2, 1) := by decide +kernel
theorem dX4_save_35 : decode cX4_save 35 = .ok (.aload_n 0, 1) := by decide +kernel
theorem dX4_save_36 : decode cX4_save 36 = .ok (.getfield 36, 3) := by decide +kernel
theorem dX4_save_39 : decode cX4_save 39 = .ok (.iload_n 1, 1) := by decide +kernel
theorem dX4_save_40 : decode cX4_save 40 = .ok (.aload_n 2, 1) := by decide +kernel
theorem dX4_save_41 : decode cX4_save 41 = .ok (.aastore, 1) := by decide +kernel
theorem dX4_save_42 : decode cX4_save 42 = .ok (.aload_n 2, 1) := by decide +kernel
theorem dX4_save_43 : decode cX4_save 43 = .ok (.aload_n 0, 1) := by decide +kernel
theorem dX4_save_44 : decode cX4_save 44 = .ok (.getfield 12, 3) := by decide +kernel
theorem dX4_save_47 : decode cX4_save 47 = .ok (.invokevirtual 157, 3) := by decide +kernel
theorem dX4_save_50 : decode cX4_save 50 = .ok (.aload_n 0, 1) := by decide +kernel
theorem dX4_save_51 : decode cX4_save 51 = .ok (.getfield 12, 3) := by decide +kernel
theorem dX4_save_54 : decode cX4_save 54 = .ok (.invokevirtual 160, 3) := by decide +kernel
theorem dX4_save_57 : decode cX4_save 57 = .ok (.ireturn, 1) := by decide +kernel
set_option maxRecDepth 20000 in
theorem ggX4_restore_X4_isWithin : GoodIn wsX4_restore wsX4_isWithin := goodIn_r _ [6] (by decide +kernel) (by decide +kernel)
set_option maxRecDepth 20000 in
theorem gX4_restore_X4_isWithin : GoodIn wsX4_restore (va_wsS RX4 105 yX4_isWithin wsX4_isWithin) := goodIn_app (goodIn_of _ (by decide +kernel)) ggX4_restore_X4_isWithin
set_option maxRecDepth 20000 in
theorem ggX4_restore_X4_studioAt : GoodIn wsX4_restore wsX4_studioAt := goodIn_r _ [9] (by decide +kernel) (by decide +kernel)
set_option maxRecDepth 20000 in
theorem gX4_restore_X4_studioAt : GoodIn wsX4_restore (va_wsS RX4 153 yX4_studioAt wsX4_studioAt) := goodIn_app (goodIn_of _ (by decide +kernel)) ggX4_restore_X4_studioAt
set_option maxRecDepth 20000 in
theorem ggX4_restore_X4_keepState : GoodIn wsX4_restore wsX4_keepState := goodIn_r _ [13, 14, 15, 2, 7, 8, 5, 9, 16, 17, 18, 19, 20, 21, 22, 23, 24, 25, 26, 27, 28, 29, 30, 31, 32, 33, 34, 35, 36, 37, 38, 39, 40, 54, 55, 56, 57, 58, 59, 60, 61, 62, 63, 64, 65, 66, 67, 68, 69, 70, 71, 72] (by decide +kernel) (by decide +kernel)
set_option maxRecDepth 20000 in
theorem gX4_restore_X4_keepState : GoodIn wsX4_restore (wsV RX4 46 RX4 yX4_keepState wsX4_keepState) := goodIn_app (goodIn_of _ (by decide +kernel)) ggX4_restore_X4_keepState
set_option maxRecDepth 20000 in
theorem ggX4_restore_X2_copyFrom : GoodIn wsX4_restore wsX2_copyFrom := goodIn_r _ [20, 21, 22, 23, 24, 25, 26, 27, 28, 29, 30, 31, 5, 32, 33, 34, 35, 36, 37, 38, 39, 40, 61, 62, 63, 64, 65, 66, 67, 68, 69, 70, 71, 72] (by decide +kernel) (by decide +kernel)
set_option maxRecDepth 20000 in
theorem gX4_restore_X2_copyFrom : GoodIn wsX4_restore (wsV RX4 157 RX2 yX2_copyFrom wsX2_copyFrom) := goodIn_app (goodIn_of _ (by decide +kernel)) ggX4_restore_X2_copyFrom
set_option maxRecDepth 20000 in
theorem ggX4_restore_X2_dropsInPots : GoodIn wsX4_restore wsX2_dropsInPots := goodIn_r _ [44, 45, 46, 47, 19, 48, 22, 61, 62, 63, 64, 65, 66, 67, 68, 69, 70, 71, 72] (by decide +kernel) (by decide +kernel)
set_option maxRecDepth 20000 in
theorem gX4_restore_X2_dropsInPots : GoodIn wsX4_restore (wsV RX4 160 RX2 yX2_dropsInPots wsX2_dropsInPots) := goodIn_app (goodIn_of _ (by decide +kernel)) ggX4_restore_X2_dropsInPots
set_option maxRecDepth 20000 in
theorem ggX4_restore_X4_recorded : GoodIn wsX4_restore wsX4_recorded := goodIn_r _ [52, 15, 53, 33, 34, 35, 36, 54, 55, 56, 57, 58, 59, 60] (by decide +kernel) (by decide +kernel)
set_option maxRecDepth 20000 in
theorem gX4_restore_X4_recorded : GoodIn wsX4_restore (wsV RX4 53 RX4 yX4_recorded wsX4_recorded) := goodIn_app (goodIn_of _ (by decide +kernel)) ggX4_restore_X4_recorded
theorem dX4_restore_0 : decode cX4_restore 0 = .ok (.iload_n 1, 1) := by decide +kernel
theorem dX4_restore_1 : decode cX4_restore 1 = .ok (.iconst 2, 1) := by decide +kernel
theorem dX4_restore_2 : decode cX4_restore 2 = .ok (.invokestatic 105, 3) := by decide +kernel
theorem dX4_restore_5 : decode cX4_restore 5 = .ok (.ifCond .ne 6, 3) := by decide +kernel
theorem dX4_restore_8 : decode cX4_restore 8 = .ok (.bipush (-2), 2) := by decide +kernel
theorem dX4_restore_10 : decode cX4_restore 10 = .ok (.ireturn, 1) := by decide +kernel
theorem dX4_restore_11 : decode cX4_restore 11 = .ok (.aload_n 0, 1) := by decide +kernel
theorem dX4_restore_12 : decode cX4_restore 12 = .ok (.getfield 36, 3) := by decide +kernel
theorem dX4_restore_15 : decode cX4_restore 15 = .ok (.iload_n 1, 1) := by decide +kernel
theorem dX4_restore_16 : decode cX4_restore 16 = .ok (.invokestatic 153, 3) := by decide +kernel
theorem dX4_restore_19 : decode cX4_restore 19 = .ok (.astore_n 2, 1) := by decide +kernel
theorem dX4_restore_20 : decode cX4_restore 20 = .ok (.aload_n 2, 1) := by decide +kernel
theorem dX4_restore_21 : decode cX4_restore 21 = .ok (.ifnonnull 6, 3) := by decide +kernel
theorem dX4_restore_24 : decode cX4_restore 24 = .ok (.bipush (-5), 2) := by decide +kernel
theorem dX4_restore_26 : decode cX4_restore 26 = .ok (.ireturn, 1) := by decide +kernel
theorem dX4_restore_27 : decode cX4_restore 27 = .ok (.aload_n 0, 1) := by decide +kernel
theorem dX4_restore_28 : decode cX4_restore 28 = .ok (.invokevirtual 46, 3) := by decide +kernel
theorem dX4_restore_31 : decode cX4_restore 31 = .ok (.aload_n 0, 1) := by decide +kernel
theorem dX4_restore_32 : decode cX4_restore 32 = .ok (.getfield 12, 3) := by decide +kernel
theorem dX4_restore_35 : decode cX4_restore 35 = .ok (.aload_n 2, 1) := by decide +kernel
theorem dX4_restore_36 : decode cX4_restore 36 = .ok (.invokevirtual 157, 3) := by decide +kernel
theorem dX4_restore_39 : decode cX4_restore 39 = .ok (.aload_n 0, 1) := by decide +kernel
theorem dX4_restore_40 : decode cX4_restore 40 = .ok (.aload_n 0, 1) := by decide +kernel
theorem dX4_restore_41 : decode cX4_restore 41 = .ok (.getfield 12, 3) := by decide +kernel
theorem dX4_restore_44 : decode cX4_restore 44 = .ok (.invokevirtual 160, 3) := by decide +kernel
theorem dX4_restore_47 : decode cX4_restore 47 = .ok (.invokevirtual 53, 3) := by decide +kernel
theorem dX4_restore_50 : decode cX4_restore 50 = .ok (.ireturn, 1) := by decide +kernel
set_option maxRecDepth 20000 in
theorem ggX4_keepState_X4_studioAt : GoodIn wsX4_keepState wsX4_studioAt := goodIn_r _ [7] (by decide +kernel) (by decide +kernel)
set_option maxRecDepth 20000 in
theorem gX4_keepState_X4_studioAt : GoodIn wsX4_keepState (va_wsS RX4 153 yX4_studioAt wsX4_studioAt) := goodIn_app (goodIn_of _ (by decide +kernel)) ggX4_keepState_X4_studioAt
set_option maxRecDepth 20000 in
theorem ggX4_keepState_X2_copyFrom : GoodIn wsX4_keepState wsX2_copyFrom := goodIn_r _ [12, 13, 14, 15, 16, 17, 18, 19, 20, 21, 22, 23, 6, 24, 25, 26, 27, 28, 29, 30, 31, 32, 40, 41, 42, 43, 44, 45, 46, 47, 48, 49, 50, 51] (by decide +kernel) (by decide +kernel)
set_option maxRecDepth 20000 in
theorem gX4_keepState_X2_copyFrom : GoodIn wsX4_keepState (wsV RX4 157 RX2 yX2_copyFrom wsX2_copyFrom) := goodIn_app (goodIn_of _ (by decide +kernel)) ggX4_keepState_X2_copyFrom
theorem dX4_keepState_0 : decode cX4_keepState 0 = .ok (.aload_n 0, 1) := by decide +kernel
theorem dX4_keepState_1 : decode cX4_keepState 1 = .ok (.getfield 32, 3) := by decide +kernel
theorem dX4_keepState_4 : decode cX4_keepState 4 = .ok (.aload_n 0, 1) := by decide +kernel
theorem dX4_keepState_5 : decode cX4_keepState 5 = .ok (.getfield 39, 3) := by decide +kernel
theorem dX4_keepState_8 : decode cX4_keepState 8 = .ok (.invokestatic 153, 3) := by decide +kernel
theorem dX4_keepState_11 : decode cX4_keepState 11 = .ok (.astore_n 1, 1) := by decide +kernel
theorem dX4_keepState_12 : decode cX4_keepState 12 = .ok (.aload_n 1, 1) := by decide +kernel
theorem dX4_keepState_13 : decode cX4_keepState 13 = .ok (.ifnull 11, 3) := by decide +kernel
theorem dX4_keepState_16 : decode cX4_keepState 16 = .ok (.aload_n 1, 1) := by decide +kernel
theorem dX4_keepState_17 : decode cX4_keepState 17 = .ok (.aload_n 0, 1) := by decide +kernel
theorem dX4_keepState_18 : decode cX4_keepState 18 = .ok (.getfield 12, 3) := by decide +kernel
theorem dX4_keepState_21 : decode cX4_keepState 21 = .ok (.invokevirtual 157, 3) := by decide +kernel
theorem dX4_keepState_24 : decode cX4_keepState 24 = .ok (.return_, 1) := by decide +kernel
theorem dX4_recorded_0 : decode cX4_recorded 0 = .ok (.iload_n 1, 1) := by decide +kernel
theorem dX4_recorded_1 : decode cX4_recorded 1 = .ok (.ifCond .lt 41, 3) := by decide +kernel
theorem dX4_recorded_4 : decode cX4_recorded 4 = .ok (.aload_n 0, 1) := by decide +kernel
theorem dX4_recorded_5 : decode cX4_recorded 5 = .ok (.aload_n 0, 1) := by decide +kernel
theorem dX4_recorded_6 : decode cX4_recorded 6 = .ok (.getfield 39, 3) := by decide +kernel
theorem dX4_recorded_9 : decode cX4_recorded 9 = .ok (.bipush 6, 2) := by decide +kernel
theorem dX4_recorded_11 : decode cX4_recorded 11 = .ok (.if_icmp .lt 7, 3) := by decide +kernel
theorem dX4_recorded_14 : decode cX4_recorded 14 = .ok (.iconst 0, 1) := by decide +kernel
theorem dX4_recorded_15 : decode cX4_recorded 15 = .ok (.goto 9, 3) := by decide +kernel
theorem dX4_recorded_18 : decode cX4_recorded 18 = .ok (.aload_n 0, 1) := by decide +kernel
theorem dX4_recorded_19 : decode cX4_recorded 19 = .ok (.getfield 39, 3) := by decide +kernel
theorem dX4_recorded_22 : decode cX4_recorded 22 = .ok (.iconst 1, 1) := by decide +kernel
theorem dX4_recorded_23 : decode cX4_recorded 23 = .ok (.iadd, 1) := by decide +kernel
theorem dX4_recorded_24 : decode cX4_recorded 24 = .ok (.putfield 39, 3) := by decide +kernel
theorem dX4_recorded_27 : decode cX4_recorded 27 = .ok (.aload_n 0, 1) := by decide +kernel
theorem dX4_recorded_28 : decode cX4_recorded 28 = .ok (.aload_n 0, 1) := by decide +kernel
theorem dX4_recorded_29 : decode cX4_recorded 29 = .ok (.getfield 43, 3) := by decide +kernel
theorem dX4_recorded_32 : decode cX4_recorded 32 = .ok (.iconst 1, 1) := by decide +kernel
theorem dX4_recorded_33 : decode cX4_recorded 33 = .ok (.iadd, 1) := by decide +kernel
theorem dX4_recorded_34 : decode cX4_recorded 34 = .ok (.bipush 6, 2) := by decide +kernel
theorem dX4_recorded_36 : decode cX4_recorded 36 = .ok (.invokestatic 163, 3) := by decide +kernel
theorem dX4_recorded_39 : decode cX4_recorded 39 = .ok (.putfield 43, 3) := by decide +kernel
theorem dX4_recorded_42 : decode cX4_recorded 42 = .ok (.iload_n 1, 1) := by decide +kernel
theorem dX4_recorded_43 : decode cX4_recorded 43 = .ok (.ireturn, 1) := by decide +kernel
set_option maxRecDepth 20000 in
theorem ggX4_didWork_X4_didFill : GoodIn wsX4_didWork wsX4_didFill := goodIn_r _ [6, 1, 7, 8, 5, 9, 10, 11, 12, 13, 14, 15, 16, 17, 18, 19, 20, 21, 22, 23, 24, 25, 26, 27, 28, 29, 96, 97, 98, 99, 100, 101, 102, 103, 104, 105, 106, 107, 108, 109, 110, 111, 112, 113, 114, 115, 116, 117, 118, 119] (by decide +kernel) (by decide +kernel)
set_option maxRecDepth 20000 in
theorem gX4_didWork_X4_didFill : GoodIn wsX4_didWork (wsV RX4 173 RX4 yX4_didFill wsX4_didFill) := goodIn_app (goodIn_of _ (by decide +kernel)) ggX4_didWork_X4_didFill
set_option maxRecDepth 20000 in
theorem ggX4_didWork_X2_thinPot : GoodIn wsX4_didWork wsX2_thinPot := goodIn_r _ [33, 15, 34, 16, 17, 5, 18, 21, 22, 23, 13, 24, 25, 26, 7, 8, 9, 27, 28, 29, 108, 109, 110, 111, 112, 113, 114, 115, 116, 117, 118, 119] (by decide +kernel) (by decide +kernel)
set_option maxRecDepth 20000 in
theorem gX4_didWork_X2_thinPot : GoodIn wsX4_didWork (wsV RX4 61 RX2 yX2_thinPot wsX2_thinPot) := goodIn_app (goodIn_of _ (by decide +kernel)) ggX4_didWork_X2_thinPot
set_option maxRecDepth 20000 in
theorem ggX4_didWork_X2_pourOver : GoodIn wsX4_didWork wsX2_pourOver := goodIn_r _ [38, 17, 5, 18, 19, 20, 39, 40, 41, 13, 42, 15, 43, 21, 22, 23, 24, 44, 45, 46, 47, 48, 8, 9, 49, 50, 28, 29, 51, 52, 53, 54, 55, 56, 25, 26, 7, 27, 108, 109, 110, 111, 112, 113, 114, 115, 116, 117, 118, 119] (by decide +kernel) (by decide +kernel)
set_option maxRecDepth 20000 in
theorem gX4_didWork_X2_pourOver : GoodIn wsX4_didWork (wsV RX4 64 RX2 yX2_pourOver wsX2_pourOver) := goodIn_app (goodIn_of _ (by decide +kernel)) ggX4_didWork_X2_pourOver
set_option maxRecDepth 20000 in
theorem ggX4_didWork_X2_dipBrush : GoodIn wsX4_didWork wsX2_dipBrush := goodIn_r _ [60, 17, 5, 18, 19, 20, 39, 40, 41, 13, 42, 15, 43, 21, 22, 23, 24, 44, 45, 46, 47, 48, 8, 9, 49, 50, 28, 29, 51, 52, 53, 54, 55, 56, 25, 26, 7, 27, 108, 109, 110, 111, 112, 113, 114, 115, 116, 117, 118, 119] (by decide +kernel) (by decide +kernel)
set_option maxRecDepth 20000 in
theorem gX4_didWork_X2_dipBrush : GoodIn wsX4_didWork (wsV RX4 70 RX2 yX2_dipBrush wsX2_dipBrush) := goodIn_app (goodIn_of _ (by decide +kernel)) ggX4_didWork_X2_dipBrush
set_option maxRecDepth 20000 in
theorem ggX4_didWork_X2_paintPanel : GoodIn wsX4_didWork wsX2_paintPanel := goodIn_r _ [64, 65, 66, 67, 68, 17, 5, 18, 8, 9, 21, 22, 23, 13, 24, 15, 69, 70, 71, 72, 49, 50, 28, 29, 44, 45, 46, 47, 43, 48, 51, 52, 53, 54, 55, 56, 25, 26, 7, 27, 73, 74, 75, 76, 77, 78, 79, 80, 81, 82, 83, 84, 85, 108, 109, 110, 111, 112, 113, 114, 115, 116, 117, 118, 119] (by decide +kernel) (by decide +kernel)
set_option maxRecDepth 20000 in
theorem gX4_didWork_X2_paintPanel : GoodIn wsX4_didWork (wsV RX4 73 RX2 yX2_paintPanel wsX2_paintPanel) := goodIn_app (goodIn_of _ (by decide +kernel)) ggX4_didWork_X2_paintPanel
set_option maxRecDepth 20000 in
theorem ggX4_didWork_X2_rinseBrush : GoodIn wsX4_didWork wsX2_rinseBrush := goodIn_r _ [89, 90, 91, 92, 93, 13, 94, 15, 95, 21, 22, 23, 24, 28, 5, 29, 108, 109, 110, 111, 112, 113, 114, 115, 116, 117, 118, 119] (by decide +kernel) (by decide +kernel)
set_option maxRecDepth 20000 in
theorem gX4_didWork_X2_rinseBrush : GoodIn wsX4_didWork (wsV RX4 76 RX2 yX2_rinseBrush wsX2_rinseBrush) := goodIn_app (goodIn_of _ (by decide +kernel)) ggX4_didWork_X2_rinseBrush
theorem dX4_didWork_0 : decode cX4_didWork 0 = .ok (.aload_n 1, 1) := by decide +kernel
theorem dX4_didWork_1 : decode cX4_didWork 1 = .ok (.ifnonnull 5, 3) := by decide +kernel
theorem dX4_didWork_4 : decode cX4_didWork 4 = .ok (.iconst 0, 1) := by decide +kernel
theorem dX4_didWork_5 : decode cX4_didWork 5 = .ok (.ireturn, 1) := by decide +kernel
theorem dX4_didWork_6 : decode cX4_didWork 6 = .ok (.aload_n 1, 1) := by decide +kernel
theorem dX4_didWork_7 : decode cX4_didWork 7 = .ok (.getfield 168, 3) := by decide +kernel
theorem dX4_didWork_10 : decode cX4_didWork 10 = .ok (.lookupswitch 172 #[(33, 64), (43, 58), (62, 84), (100, 112), (112, 136), (114, 156)], 58) := by decide +kernel
theorem dX4_didWork_68 : decode cX4_didWork 68 = .ok (.aload_n 0, 1) := by decide +kernel
theorem dX4_didWork_69 : decode cX4_didWork 69 = .ok (.aload_n 1, 1) := by decide +kernel
theorem dX4_didWork_70 : decode cX4_didWork 70 = .ok (.invokevirtual 173, 3) := by decide +kernel
theorem dX4_didWork_73 : decode cX4_didWork 73 = .ok (.ireturn, 1) := by decide +kernel
theorem dX4_didWork_74 : decode cX4_didWork 74 = .ok (.aload_n 0, 1) := by decide +kernel
theorem dX4_didWork_75 : decode cX4_didWork 75 = .ok (.getfield 12, 3) := by decide +kernel
theorem dX4_didWork_78 : decode cX4_didWork 78 = .ok (.aload_n 1, 1) := by decide +kernel
theorem dX4_didWork_79 : decode cX4_didWork 79 = .ok (.getfield 176, 3) := by decide +kernel
theorem dX4_didWork_82 : decode cX4_didWork 82 = .ok (.invokevirtual 61, 3) := by decide +kernel
theorem dX4_didWork_85 : decode cX4_didWork 85 = .ok (.ifCond .lt 7, 3) := by decide +kernel
theorem dX4_didWork_88 : decode cX4_didWork 88 = .ok (.iconst 1, 1) := by decide +kernel
theorem dX4_didWork_89 : decode cX4_didWork 89 = .ok (.goto 4, 3) := by decide +kernel
theorem dX4_didWork_92 : decode cX4_didWork 92 = .ok (.iconst 0, 1) := by decide +kernel
theorem dX4_didWork_93 : decode cX4_didWork 93 = .ok (.ireturn, 1) := by decide +kernel
theorem dX4_didWork_94 : decode cX4_didWork 94 = .ok (.aload_n 0, 1) := by decide +kernel
theorem dX4_didWork_95 : decode cX4_didWork 95 = .ok (.getfield 12, 3) := by decide +kernel
theorem dX4_didWork_98 : decode cX4_didWork 98 = .ok (.aload_n 1, 1) := by decide +kernel
theorem dX4_didWork_99 : decode cX4_didWork 99 = .ok (.getfield 176, 3) := by decide +kernel
theorem dX4_didWork_102 : decode cX4_didWork 102 = .ok (.aload_n 1, 1) := by decide +kernel
theorem dX4_didWork_103 : decode cX4_didWork 103 = .ok (.getfield 179, 3) := by decide +kernel
theorem dX4_didWork_106 : decode cX4_didWork 106 = .ok (.aload_n 1, 1) := by decide +kernel
theorem dX4_didWork_107 : decode cX4_didWork 107 = .ok (.getfield 182, 3) := by decide +kernel
theorem dX4_didWork_110 : decode cX4_didWork 110 = .ok (.invokevirtual 64, 3) := by decide +kernel
theorem dX4_didWork_113 : decode cX4_didWork 113 = .ok (.ifCond .lt 7, 3) := by decide +kernel
theorem dX4_didWork_116 : decode cX4_didWork 116 = .ok (.iconst 1, 1) := by decide +kernel
theorem dX4_didWork_117 : decode cX4_didWork 117 = .ok (.goto 4, 3) := by decide +kernel
theorem dX4_didWork_120 : decode cX4_didWork 120 = .ok (.iconst 0, 1) := by decide +kernel
theorem dX4_didWork_121 : decode cX4_didWork 121 = .ok (.ireturn, 1) := by decide +kernel
theorem dX4_didWork_122 : decode cX4_didWork 122 = .ok (.aload_n 0, 1) := by decide +kernel
theorem dX4_didWork_123 : decode cX4_didWork 123 = .ok (.getfield 12, 3) := by decide +kernel
theorem dX4_didWork_126 : decode cX4_didWork 126 = .ok (.aload_n 1, 1) := by decide +kernel
theorem dX4_didWork_127 : decode cX4_didWork 127 = .ok (.getfield 176, 3) := by decide +kernel
theorem dX4_didWork_130 : decode cX4_didWork 130 = .ok (.aload_n 1, 1) := by decide +kernel
theorem dX4_didWork_131 : decode cX4_didWork 131 = .ok (.getfield 182, 3) := by decide +kernel
theorem dX4_didWork_134 : decode cX4_didWork 134 = .ok (.invokevirtual 70, 3) := by decide +kernel
theorem dX4_didWork_137 : decode cX4_didWork 137 = .ok (.ifCond .lt 7, 3) := by decide +kernel
theorem dX4_didWork_140 : decode cX4_didWork 140 = .ok (.iconst 1, 1) := by decide +kernel
theorem dX4_didWork_141 : decode cX4_didWork 141 = .ok (.goto 4, 3) := by decide +kernel
theorem dX4_didWork_144 : decode cX4_didWork 144 = .ok (.iconst 0, 1) := by decide +kernel
theorem dX4_didWork_145 : decode cX4_didWork 145 = .ok (.ireturn, 1) := by decide +kernel
theorem dX4_didWork_146 : decode cX4_didWork 146 = .ok (.aload_n 0, 1) := by decide +kernel
theorem dX4_didWork_147 : decode cX4_didWork 147 = .ok (.getfield 12, 3) := by decide +kernel
theorem dX4_didWork_150 : decode cX4_didWork 150 = .ok (.aload_n 1, 1) := by decide +kernel
theorem dX4_didWork_151 : decode cX4_didWork 151 = .ok (.getfield 176, 3) := by decide +kernel
theorem dX4_didWork_154 : decode cX4_didWork 154 = .ok (.invokevirtual 73, 3) := by decide +kernel
theorem dX4_didWork_157 : decode cX4_didWork 157 = .ok (.ifCond .lt 7, 3) := by decide +kernel
theorem dX4_didWork_160 : decode cX4_didWork 160 = .ok (.iconst 1, 1) := by decide +kernel
theorem dX4_didWork_161 : decode cX4_didWork 161 = .ok (.goto 4, 3) := by decide +kernel
theorem dX4_didWork_164 : decode cX4_didWork 164 = .ok (.iconst 0, 1) := by decide +kernel
theorem dX4_didWork_165 : decode cX4_didWork 165 = .ok (.ireturn, 1) := by decide +kernel
theorem dX4_didWork_166 : decode cX4_didWork 166 = .ok (.aload_n 0, 1) := by decide +kernel
theorem dX4_didWork_167 : decode cX4_didWork 167 = .ok (.getfield 12, 3) := by decide +kernel
theorem dX4_didWork_170 : decode cX4_didWork 170 = .ok (.invokevirtual 76, 3) := by decide +kernel
theorem dX4_didWork_173 : decode cX4_didWork 173 = .ok (.ifCond .lt 7, 3) := by decide +kernel
theorem dX4_didWork_176 : decode cX4_didWork 176 = .ok (.iconst 1, 1) := by decide +kernel
theorem dX4_didWork_177 : decode cX4_didWork 177 = .ok (.goto 4, 3) := by decide +kernel
theorem dX4_didWork_180 : decode cX4_didWork 180 = .ok (.iconst 0, 1) := by decide +kernel
theorem dX4_didWork_181 : decode cX4_didWork 181 = .ok (.ireturn, 1) := by decide +kernel
theorem dX4_didWork_182 : decode cX4_didWork 182 = .ok (.iconst 0, 1) := by decide +kernel
theorem dX4_didWork_183 : decode cX4_didWork 183 = .ok (.ireturn, 1) := by decide +kernel
set_option maxRecDepth 20000 in
theorem ggX4_didFill_X4_at : GoodIn wsX4_didFill wsX4_at := goodIn_r _ [5] (by decide +kernel) (by decide +kernel)
set_option maxRecDepth 20000 in
theorem gX4_didFill_X4_at : GoodIn wsX4_didFill (va_wsS RX4 189 yX4_at wsX4_at) := goodIn_app (goodIn_of _ (by decide +kernel)) ggX4_didFill_X4_at
set_option maxRecDepth 20000 in
theorem ggX4_didFill_X2_addDrops : GoodIn wsX4_didFill wsX2_addDrops := goodIn_r _ [10, 11, 12, 13, 4, 14, 15, 16, 17, 18, 19, 9, 20, 21, 22, 2, 3, 5, 23, 24, 25, 38, 39, 40, 41, 42, 43, 44, 45, 46, 47, 48, 49] (by decide +kernel) (by decide +kernel)
set_option maxRecDepth 20000 in
theorem gX4_didFill_X2_addDrops : GoodIn wsX4_didFill (wsV RX4 57 RX2 yX2_addDrops wsX2_addDrops) := goodIn_app (goodIn_of _ (by decide +kernel)) ggX4_didFill_X2_addDrops
theorem dX4_didFill_0 : decode cX4_didFill 0 = .ok (.iconst 0, 1) := by decide +kernel
theorem dX4_didFill_1 : decode cX4_didFill 1 = .ok (.istore_n 2, 1) := by decide +kernel
theorem dX4_didFill_2 : decode cX4_didFill 2 = .ok (.iconst 0, 1) := by decide +kernel
theorem dX4_didFill_3 : decode cX4_didFill 3 = .ok (.istore_n 3, 1) := by decide +kernel
theorem dX4_didFill_4 : decode cX4_didFill 4 = .ok (.iload_n 3, 1) := by decide +kernel
theorem dX4_didFill_5 : decode cX4_didFill 5 = .ok (.iconst 4, 1) := by decide +kernel
theorem dX4_didFill_6 : decode cX4_didFill 6 = .ok (.if_icmp .ge 43, 3) := by decide +kernel
theorem dX4_didFill_9 : decode cX4_didFill 9 = .ok (.aload_n 1, 1) := by decide +kernel
theorem dX4_didFill_10 : decode cX4_didFill 10 = .ok (.getfield 185, 3) := by decide +kernel
theorem dX4_didFill_13 : decode cX4_didFill 13 = .ok (.iload_n 3, 1) := by decide +kernel
theorem dX4_didFill_14 : decode cX4_didFill 14 = .ok (.invokestatic 189, 3) := by decide +kernel
theorem dX4_didFill_17 : decode cX4_didFill 17 = .ok (.istore 4, 2) := by decide +kernel
theorem dX4_didFill_19 : decode cX4_didFill 19 = .ok (.iload 4, 2) := by decide +kernel
theorem dX4_didFill_21 : decode cX4_didFill 21 = .ok (.ifCond .le 22, 3) := by decide +kernel
theorem dX4_didFill_24 : decode cX4_didFill 24 = .ok (.aload_n 0, 1) := by decide +kernel
theorem dX4_didFill_25 : decode cX4_didFill 25 = .ok (.getfield 12, 3) := by decide +kernel
theorem dX4_didFill_28 : decode cX4_didFill 28 = .ok (.aload_n 1, 1) := by decide +kernel
theorem dX4_didFill_29 : decode cX4_didFill 29 = .ok (.getfield 176, 3) := by decide +kernel
theorem dX4_didFill_32 : decode cX4_didFill 32 = .ok (.iload_n 3, 1) := by decide +kernel
theorem dX4_didFill_33 : decode cX4_didFill 33 = .ok (.iload 4, 2) := by decide +kernel
theorem dX4_didFill_35 : decode cX4_didFill 35 = .ok (.invokevirtual 57, 3) := by decide +kernel
theorem dX4_didFill_38 : decode cX4_didFill 38 = .ok (.ifCond .lt 5, 3) := by decide +kernel
theorem dX4_didFill_41 : decode cX4_didFill 41 = .ok (.iconst 1, 1) := by decide +kernel
theorem dX4_didFill_42 : decode cX4_didFill 42 = .ok (.istore_n 2, 1) := by decide +kernel
theorem dX4_didFill_43 : decode cX4_didFill 43 = .ok (.iinc 3 1, 3) := by decide +kernel
theorem dX4_didFill_46 : decode cX4_didFill 46 = .ok (.goto (-42), 3) := by decide +kernel
theorem dX4_didFill_49 : decode cX4_didFill 49 = .ok (.iload_n 2, 1) := by decide +kernel
theorem dX4_didFill_50 : decode cX4_didFill 50 = .ok (.ireturn, 1) := by decide +kernel
theorem dX4_isWithin_0 : decode cX4_isWithin 0 = .ok (.iload_n 0, 1) := by decide +kernel
theorem dX4_isWithin_1 : decode cX4_isWithin 1 = .ok (.ifCond .lt 12, 3) := by decide +kernel
theorem dX4_isWithin_4 : decode cX4_isWithin 4 = .ok (.iload_n 0, 1) := by decide +kernel
theorem dX4_isWithin_5 : decode cX4_isWithin 5 = .ok (.iload_n 1, 1) := by decide +kernel
theorem dX4_isWithin_6 : decode cX4_isWithin 6 = .ok (.if_icmp .ge 7, 3) := by decide +kernel
theorem dX4_isWithin_9 : decode cX4_isWithin 9 = .ok (.iconst 1, 1) := by decide +kernel
theorem dX4_isWithin_10 : decode cX4_isWithin 10 = .ok (.goto 4, 3) := by decide +kernel
theorem dX4_isWithin_13 : decode cX4_isWithin 13 = .ok (.iconst 0, 1) := by decide +kernel
theorem dX4_isWithin_14 : decode cX4_isWithin 14 = .ok (.ireturn, 1) := by decide +kernel
theorem dX4_isBetween_0 : decode cX4_isBetween 0 = .ok (.iload_n 0, 1) := by decide +kernel
theorem dX4_isBetween_1 : decode cX4_isBetween 1 = .ok (.iload_n 1, 1) := by decide +kernel
theorem dX4_isBetween_2 : decode cX4_isBetween 2 = .ok (.if_icmp .lt 12, 3) := by decide +kernel
theorem dX4_isBetween_5 : decode cX4_isBetween 5 = .ok (.iload_n 0, 1) := by decide +kernel
theorem dX4_isBetween_6 : decode cX4_isBetween 6 = .ok (.iload_n 2, 1) := by decide +kernel
theorem dX4_isBetween_7 : decode cX4_isBetween 7 = .ok (.if_icmp .gt 7, 3) := by decide +kernel
theorem dX4_isBetween_10 : decode cX4_isBetween 10 = .ok (.iconst 1, 1) := by decide +kernel
theorem dX4_isBetween_11 : decode cX4_isBetween 11 = .ok (.goto 4, 3) := by decide +kernel
theorem dX4_isBetween_14 : decode cX4_isBetween 14 = .ok (.iconst 0, 1) := by decide +kernel
theorem dX4_isBetween_15 : decode cX4_isBetween 15 = .ok (.ireturn, 1) := by decide +kernel
theorem dX4_at_0 : decode cX4_at 0 = .ok (.aload_n 0, 1) := by decide +kernel
theorem dX4_at_1 : decode cX4_at 1 = .ok (.ifnull 13, 3) := by decide +kernel
theorem dX4_at_4 : decode cX4_at 4 = .ok (.iload_n 1, 1) := by decide +kernel
theorem dX4_at_5 : decode cX4_at 5 = .ok (.ifCond .lt 9, 3) := by decide +kernel
theorem dX4_at_8 : decode cX4_at 8 = .ok (.iload_n 1, 1) := by decide +kernel
theorem dX4_at_9 : decode cX4_at 9 = .ok (.aload_n 0, 1) := by decide +kernel
theorem dX4_at_10 : decode cX4_at 10 = .ok (.arraylength, 1) := by decide +kernel
theorem dX4_at_11 : decode cX4_at 11 = .ok (.if_icmp .lt 5, 3) := by decide +kernel
theorem dX4_at_14 : decode cX4_at 14 = .ok (.iconst 0, 1) := by decide +kernel
theorem dX4_at_15 : decode cX4_at 15 = .ok (.ireturn, 1) := by decide +kernel
theorem dX4_at_16 : decode cX4_at 16 = .ok (.aload_n 0, 1) := by decide +kernel
theorem dX4_at_17 : decode cX4_at 17 = .ok (.iload_n 1, 1) := by decide +kernel
theorem dX4_at_18 : decode cX4_at 18 = .ok (.iaload, 1) := by decide +kernel
theorem dX4_at_19 : decode cX4_at 19 = .ok (.ireturn, 1) := by decide +kernel
theorem dX4_write_0 : decode cX4_write 0 = .ok (.aload_n 0, 1) := by decide +kernel
theorem dX4_write_1 : decode cX4_write 1 = .ok (.ifnull 17, 3) := by decide +kernel
theorem dX4_write_4 : decode cX4_write 4 = .ok (.iload_n 1, 1) := by decide +kernel
theorem dX4_write_5 : decode cX4_write 5 = .ok (.ifCond .lt 13, 3) := by decide +kernel
theorem dX4_write_8 : decode cX4_write 8 = .ok (.iload_n 1, 1) := by decide +kernel
theorem dX4_write_9 : decode cX4_write 9 = .ok (.aload_n 0, 1) := by decide +kernel
theorem dX4_write_10 : decode cX4_write 10 = .ok (.arraylength, 1) := by decide +kernel
theorem dX4_write_11 : decode cX4_write 11 = .ok (.if_icmp .ge 7, 3) := by decide +kernel
theorem dX4_write_14 : decode cX4_write 14 = .ok (.aload_n 0, 1) := by decide +kernel
theorem dX4_write_15 : decode cX4_write 15 = .ok (.iload_n 1, 1) := by decide +kernel
theorem dX4_write_16 : decode cX4_write 16 = .ok (.iload_n 2, 1) := by decide +kernel
theorem dX4_write_17 : decode cX4_write 17 = .ok (.iastore, 1) := by decide +kernel
theorem dX4_write_18 : decode cX4_write 18 = .ok (.return_, 1) := by decide +kernel
set_option maxRecDepth 20000 in
theorem ggX4_add_X4_at : GoodIn wsX4_add wsX4_at := goodIn_r _ [4] (by decide +kernel) (by decide +kernel)
set_option maxRecDepth 20000 in
theorem gX4_add_X4_at : GoodIn wsX4_add (va_wsS RX4 189 yX4_at wsX4_at) := goodIn_app (goodIn_of _ (by decide +kernel)) ggX4_add_X4_at
set_option maxRecDepth 20000 in
theorem ggX4_add_X4_write : GoodIn wsX4_add wsX4_write := goodIn_r _ [7] (by decide +kernel) (by decide +kernel)
set_option maxRecDepth 20000 in
theorem gX4_add_X4_write : GoodIn wsX4_add (va_wsS RX4 193 yX4_write wsX4_write) := goodIn_app (goodIn_of _ (by decide +kernel)) ggX4_add_X4_write
theorem dX4_add_0 : decode cX4_add 0 = .ok (.aload_n 0, 1) := by decide +kernel
theorem dX4_add_1 : decode cX4_add 1 = .ok (.iload_n 1, 1) := by decide +kernel
theorem dX4_add_2 : decode cX4_add 2 = .ok (.aload_n 0, 1) := by decide +kernel
theorem dX4_add_3 : decode cX4_add 3 = .ok (.iload_n 1, 1) := by decide +kernel
theorem dX4_add_4 : decode cX4_add 4 = .ok (.invokestatic 189, 3) := by decide +kernel
theorem dX4_add_7 : decode cX4_add 7 = .ok (.iload_n 2, 1) := by decide +kernel
theorem dX4_add_8 : decode cX4_add 8 = .ok (.iadd, 1) := by decide +kernel
theorem dX4_add_9 : decode cX4_add 9 = .ok (.invokestatic 193, 3) := by decide +kernel
theorem dX4_add_12 : decode cX4_add 12 = .ok (.return_, 1) := by decide +kernel
theorem dX4_copyRow_0 : decode cX4_copyRow 0 = .ok (.aload_n 0, 1) := by decide +kernel
theorem dX4_copyRow_1 : decode cX4_copyRow 1 = .ok (.ifnull 21, 3) := by decide +kernel
theorem dX4_copyRow_4 : decode cX4_copyRow 4 = .ok (.aload_n 1, 1) := by decide +kernel
theorem dX4_copyRow_5 : decode cX4_copyRow 5 = .ok (.ifnull 17, 3) := by decide +kernel
theorem dX4_copyRow_8 : decode cX4_copyRow 8 = .ok (.aload_n 0, 1) := by decide +kernel
theorem dX4_copyRow_9 : decode cX4_copyRow 9 = .ok (.iconst 0, 1) := by decide +kernel
theorem dX4_copyRow_10 : decode cX4_copyRow 10 = .ok (.aload_n 1, 1) := by decide +kernel
theorem dX4_copyRow_11 : decode cX4_copyRow 11 = .ok (.iconst 0, 1) := by decide +kernel
theorem dX4_copyRow_12 : decode cX4_copyRow 12 = .ok (.aload_n 0, 1) := by decide +kernel
theorem dX4_copyRow_13 : decode cX4_copyRow 13 = .ok (.arraylength, 1) := by decide +kernel
theorem dX4_copyRow_14 : decode cX4_copyRow 14 = .ok (.aload_n 1, 1) := by decide +kernel
theorem dX4_copyRow_15 : decode cX4_copyRow 15 = .ok (.arraylength, 1) := by decide +kernel
theorem dX4_copyRow_16 : decode cX4_copyRow 16 = .ok (.invokestatic 163, 3) := by decide +kernel
theorem dX4_copyRow_19 : decode cX4_copyRow 19 = .ok (.invokestatic 197, 3) := by decide +kernel
theorem dX4_copyRow_22 : decode cX4_copyRow 22 = .ok (.return_, 1) := by decide +kernel
theorem dX4_divide_0 : decode cX4_divide 0 = .ok (.iload_n 1, 1) := by decide +kernel
theorem dX4_divide_1 : decode cX4_divide 1 = .ok (.ifCond .gt 7, 3) := by decide +kernel
theorem dX4_divide_4 : decode cX4_divide 4 = .ok (.iconst 0, 1) := by decide +kernel
theorem dX4_divide_5 : decode cX4_divide 5 = .ok (.goto 6, 3) := by decide +kernel
theorem dX4_divide_8 : decode cX4_divide 8 = .ok (.iload_n 0, 1) := by decide +kernel
theorem dX4_divide_9 : decode cX4_divide 9 = .ok (.iload_n 1, 1) := by decide +kernel
theorem dX4_divide_10 : decode cX4_divide 10 = .ok (.idiv, 1) := by decide +kernel
theorem dX4_divide_11 : decode cX4_divide 11 = .ok (.ireturn, 1) := by decide +kernel
theorem dX4_remainder_0 : decode cX4_remainder 0 = .ok (.iload_n 1, 1) := by decide +kernel
theorem dX4_remainder_1 : decode cX4_remainder 1 = .ok (.ifCond .gt 7, 3) := by decide +kernel
theorem dX4_remainder_4 : decode cX4_remainder 4 = .ok (.iconst 0, 1) := by decide +kernel
theorem dX4_remainder_5 : decode cX4_remainder 5 = .ok (.goto 6, 3) := by decide +kernel
theorem dX4_remainder_8 : decode cX4_remainder 8 = .ok (.iload_n 0, 1) := by decide +kernel
theorem dX4_remainder_9 : decode cX4_remainder 9 = .ok (.iload_n 1, 1) := by decide +kernel
theorem dX4_remainder_10 : decode cX4_remainder 10 = .ok (.irem, 1) := by decide +kernel
theorem dX4_remainder_11 : decode cX4_remainder 11 = .ok (.ireturn, 1) := by decide +kernel
theorem dX4_studioAt_0 : decode cX4_studioAt 0 = .ok (.aload_n 0, 1) := by decide +kernel
theorem dX4_studioAt_1 : decode cX4_studioAt 1 = .ok (.ifnull 13, 3) := by decide +kernel
theorem dX4_studioAt_4 : decode cX4_studioAt 4 = .ok (.iload_n 1, 1) := by decide +kernel
theorem dX4_studioAt_5 : decode cX4_studioAt 5 = .ok (.ifCond .lt 9, 3) := by decide +kernel
theorem dX4_studioAt_8 : decode cX4_studioAt 8 = .ok (.iload_n 1, 1) := by decide +kernel
theorem dX4_studioAt_9 : decode cX4_studioAt 9 = .ok (.aload_n 0, 1) := by decide +kernel
theorem dX4_studioAt_10 : decode cX4_studioAt 10 = .ok (.arraylength, 1) := by decide +kernel
theorem dX4_studioAt_11 : decode cX4_studioAt 11 = .ok (.if_icmp .lt 5, 3) := by decide +kernel
theorem dX4_studioAt_14 : decode cX4_studioAt 14 = .ok (.aconst_null, 1) := by decide +kernel
theorem dX4_studioAt_15 : decode cX4_studioAt 15 = .ok (.areturn, 1) := by decide +kernel
theorem dX4_studioAt_16 : decode cX4_studioAt 16 = .ok (.aload_n 0, 1) := by decide +kernel
theorem dX4_studioAt_17 : decode cX4_studioAt 17 = .ok (.iload_n 1, 1) := by decide +kernel
theorem dX4_studioAt_18 : decode cX4_studioAt 18 = .ok (.aaload, 1) := by decide +kernel
theorem dX4_studioAt_19 : decode cX4_studioAt 19 = .ok (.areturn, 1) := by decide +kernel
