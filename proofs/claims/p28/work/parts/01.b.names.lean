theorem dX0_init_0 : decode cX0_init 0 = .ok (.aload_n 0, 1) := by decide +kernel
theorem dX0_init_1 : decode cX0_init 1 = .ok (.invokespecial 3, 3) := by decide +kernel
theorem dX0_init_4 : decode cX0_init 4 = .ok (.aload_n 0, 1) := by decide +kernel
theorem dX0_init_5 : decode cX0_init 5 = .ok (.aload_n 1, 1) := by decide +kernel
theorem dX0_init_6 : decode cX0_init 6 = .ok (.putfield 9, 3) := by decide +kernel
theorem dX0_init_9 : decode cX0_init 9 = .ok (.aload_n 0, 1) := by decide +kernel
theorem dX0_init_10 : decode cX0_init 10 = .ok (.iconst 5, 1) := by decide +kernel
theorem dX0_init_11 : decode cX0_init 11 = .ok (.newarray .int, 2) := by decide +kernel
theorem dX0_init_13 : decode cX0_init 13 = .ok (.putfield 15, 3) := by decide +kernel
theorem dX0_init_16 : decode cX0_init 16 = .ok (.aload_n 0, 1) := by decide +kernel
theorem dX0_init_17 : decode cX0_init 17 = .ok (.iconst 3, 1) := by decide +kernel
theorem dX0_init_18 : decode cX0_init 18 = .ok (.newarray .int, 2) := by decide +kernel
theorem dX0_init_20 : decode cX0_init 20 = .ok (.putfield 19, 3) := by decide +kernel
theorem dX0_init_23 : decode cX0_init 23 = .ok (.aload_n 0, 1) := by decide +kernel
theorem dX0_init_24 : decode cX0_init 24 = .ok (.iconst 3, 1) := by decide +kernel
theorem dX0_init_25 : decode cX0_init 25 = .ok (.newarray .int, 2) := by decide +kernel
theorem dX0_init_27 : decode cX0_init 27 = .ok (.putfield 22, 3) := by decide +kernel
theorem dX0_init_30 : decode cX0_init 30 = .ok (.aload_n 0, 1) := by decide +kernel
theorem dX0_init_31 : decode cX0_init 31 = .ok (.bipush 6, 2) := by decide +kernel
theorem dX0_init_33 : decode cX0_init 33 = .ok (.newarray .int, 2) := by decide +kernel
theorem dX0_init_35 : decode cX0_init 35 = .ok (.putfield 25, 3) := by decide +kernel
theorem dX0_init_38 : decode cX0_init 38 = .ok (.aload_n 0, 1) := by decide +kernel
theorem dX0_init_39 : decode cX0_init 39 = .ok (.bipush 6, 2) := by decide +kernel
theorem dX0_init_41 : decode cX0_init 41 = .ok (.newarray .int, 2) := by decide +kernel
theorem dX0_init_43 : decode cX0_init 43 = .ok (.putfield 28, 3) := by decide +kernel
theorem dX0_init_46 : decode cX0_init 46 = .ok (.return_, 1) := by decide +kernel
set_option maxRecDepth 20000 in
theorem ggX0_nearestPot_X2_hasPaint : GoodIn wsX0_nearestPot wsX2_hasPaint := goodIn_r _ [6, 7, 8, 9, 5, 10, 11, 40, 41, 42, 43, 44, 45, 46, 47, 48, 49, 50, 51] (by decide +kernel) (by decide +kernel)
set_option maxRecDepth 20000 in
theorem gX0_nearestPot_X2_hasPaint : GoodIn wsX0_nearestPot (wsV RX0 31 RX2 yX2_hasPaint wsX2_hasPaint) := goodIn_app (goodIn_of _ (by decide +kernel)) ggX0_nearestPot_X2_hasPaint
set_option maxRecDepth 20000 in
theorem ggX0_nearestPot_X2_distanceOfPaint : GoodIn wsX0_nearestPot wsX2_distanceOfPaint := goodIn_r _ [15, 16, 17, 18, 5, 19, 11, 20, 21, 22, 7, 8, 9, 10, 23, 24, 25, 26, 27, 28, 29, 30, 31, 32, 33, 40, 41, 42, 43, 44, 45, 46, 47, 48, 49, 50, 51] (by decide +kernel) (by decide +kernel)
set_option maxRecDepth 20000 in
theorem gX0_nearestPot_X2_distanceOfPaint : GoodIn wsX0_nearestPot (wsV RX0 37 RX2 yX2_distanceOfPaint wsX2_distanceOfPaint) := goodIn_app (goodIn_of _ (by decide +kernel)) ggX0_nearestPot_X2_distanceOfPaint
theorem dX0_nearestPot_0 : decode cX0_nearestPot 0 = .ok (.bipush (-6), 2) := by decide +kernel
theorem dX0_nearestPot_2 : decode cX0_nearestPot 2 = .ok (.istore_n 2, 1) := by decide +kernel
theorem dX0_nearestPot_3 : decode cX0_nearestPot 3 = .ok (.sipush 1000, 3) := by decide +kernel
theorem dX0_nearestPot_6 : decode cX0_nearestPot 6 = .ok (.istore_n 3, 1) := by decide +kernel
theorem dX0_nearestPot_7 : decode cX0_nearestPot 7 = .ok (.iconst 0, 1) := by decide +kernel
theorem dX0_nearestPot_8 : decode cX0_nearestPot 8 = .ok (.istore 4, 2) := by decide +kernel
theorem dX0_nearestPot_10 : decode cX0_nearestPot 10 = .ok (.iload 4, 2) := by decide +kernel
theorem dX0_nearestPot_12 : decode cX0_nearestPot 12 = .ok (.bipush 8, 2) := by decide +kernel
theorem dX0_nearestPot_14 : decode cX0_nearestPot 14 = .ok (.if_icmp .ge 45, 3) := by decide +kernel
theorem dX0_nearestPot_17 : decode cX0_nearestPot 17 = .ok (.aload_n 0, 1) := by decide +kernel
theorem dX0_nearestPot_18 : decode cX0_nearestPot 18 = .ok (.getfield 9, 3) := by decide +kernel
theorem dX0_nearestPot_21 : decode cX0_nearestPot 21 = .ok (.iload 4, 2) := by decide +kernel
theorem dX0_nearestPot_23 : decode cX0_nearestPot 23 = .ok (.invokevirtual 31, 3) := by decide +kernel
theorem dX0_nearestPot_26 : decode cX0_nearestPot 26 = .ok (.ifCond .eq 27, 3) := by decide +kernel
theorem dX0_nearestPot_29 : decode cX0_nearestPot 29 = .ok (.aload_n 0, 1) := by decide +kernel
theorem dX0_nearestPot_30 : decode cX0_nearestPot 30 = .ok (.getfield 9, 3) := by decide +kernel
theorem dX0_nearestPot_33 : decode cX0_nearestPot 33 = .ok (.iload_n 1, 1) := by decide +kernel
theorem dX0_nearestPot_34 : decode cX0_nearestPot 34 = .ok (.iload 4, 2) := by decide +kernel
theorem dX0_nearestPot_36 : decode cX0_nearestPot 36 = .ok (.invokevirtual 37, 3) := by decide +kernel
theorem dX0_nearestPot_39 : decode cX0_nearestPot 39 = .ok (.istore 5, 2) := by decide +kernel
theorem dX0_nearestPot_41 : decode cX0_nearestPot 41 = .ok (.iload 5, 2) := by decide +kernel
theorem dX0_nearestPot_43 : decode cX0_nearestPot 43 = .ok (.iload_n 3, 1) := by decide +kernel
theorem dX0_nearestPot_44 : decode cX0_nearestPot 44 = .ok (.if_icmp .ge 9, 3) := by decide +kernel
theorem dX0_nearestPot_47 : decode cX0_nearestPot 47 = .ok (.iload 5, 2) := by decide +kernel
theorem dX0_nearestPot_49 : decode cX0_nearestPot 49 = .ok (.istore_n 3, 1) := by decide +kernel
theorem dX0_nearestPot_50 : decode cX0_nearestPot 50 = .ok (.iload 4, 2) := by decide +kernel
theorem dX0_nearestPot_52 : decode cX0_nearestPot 52 = .ok (.istore_n 2, 1) := by decide +kernel
theorem dX0_nearestPot_53 : decode cX0_nearestPot 53 = .ok (.iinc 4 1, 3) := by decide +kernel
theorem dX0_nearestPot_56 : decode cX0_nearestPot 56 = .ok (.goto (-46), 3) := by decide +kernel
theorem dX0_nearestPot_59 : decode cX0_nearestPot 59 = .ok (.iload_n 2, 1) := by decide +kernel
theorem dX0_nearestPot_60 : decode cX0_nearestPot 60 = .ok (.ireturn, 1) := by decide +kernel
set_option maxRecDepth 20000 in
theorem ggX0_mixture_X4_write : GoodIn wsX0_mixture wsX4_write := goodIn_r _ [5] (by decide +kernel) (by decide +kernel)
set_option maxRecDepth 20000 in
theorem gX0_mixture_X4_write_n62 : GoodIn wsX0_mixture (wsX4_write) := ggX0_mixture_X4_write
set_option maxRecDepth 20000 in
theorem ggX0_mixture_X2_hasPaint : GoodIn wsX0_mixture wsX2_hasPaint := goodIn_r _ [10, 11, 12, 13, 9, 14, 15, 51, 52, 53, 54, 55, 56, 57, 58, 59, 60, 61, 62] (by decide +kernel) (by decide +kernel)
set_option maxRecDepth 20000 in
theorem gX0_mixture_X2_hasPaint : GoodIn wsX0_mixture (wsV RX0 31 RX2 yX2_hasPaint wsX2_hasPaint) := goodIn_app (goodIn_of _ (by decide +kernel)) ggX0_mixture_X2_hasPaint
set_option maxRecDepth 20000 in
theorem ggX0_mixture_X0_tryParts : GoodIn wsX0_mixture wsX0_tryParts := goodIn_r _ [20, 2, 21, 22, 1, 23, 12, 13, 9, 14, 15, 24, 25, 26, 27, 28, 4, 29, 3, 5, 30, 31, 32, 19, 33, 34, 35, 36, 37, 38, 39, 40, 41, 42, 43, 44, 45, 46, 47, 48, 49, 50, 51, 52, 53, 54, 55, 56, 57, 58, 59, 60, 61, 62] (by decide +kernel) (by decide +kernel)
set_option maxRecDepth 20000 in
theorem gX0_mixture_X0_tryParts : GoodIn wsX0_mixture (wsV RX0 66 RX0 yX0_tryParts wsX0_tryParts) := goodIn_app (goodIn_of _ (by decide +kernel)) ggX0_mixture_X0_tryParts
set_option maxRecDepth 20000 in
theorem ggX0_mixture_X4_at : GoodIn wsX0_mixture wsX4_at := goodIn_r _ [29] (by decide +kernel) (by decide +kernel)
set_option maxRecDepth 20000 in
theorem gX0_mixture_X4_at_n70 : GoodIn wsX0_mixture (wsX4_at) := ggX0_mixture_X4_at
theorem dX0_mixture_0 : decode cX0_mixture 0 = .ok (.aload_n 0, 1) := by decide +kernel
theorem dX0_mixture_1 : decode cX0_mixture 1 = .ok (.getfield 15, 3) := by decide +kernel
theorem dX0_mixture_4 : decode cX0_mixture 4 = .ok (.iconst 4, 1) := by decide +kernel
theorem dX0_mixture_5 : decode cX0_mixture 5 = .ok (.sipush 1000, 3) := by decide +kernel
theorem dX0_mixture_8 : decode cX0_mixture 8 = .ok (.invokestatic 62, 3) := by decide +kernel
theorem dX0_mixture_11 : decode cX0_mixture 11 = .ok (.iconst 0, 1) := by decide +kernel
theorem dX0_mixture_12 : decode cX0_mixture 12 = .ok (.istore_n 3, 1) := by decide +kernel
theorem dX0_mixture_13 : decode cX0_mixture 13 = .ok (.iload_n 3, 1) := by decide +kernel
theorem dX0_mixture_14 : decode cX0_mixture 14 = .ok (.bipush 8, 2) := by decide +kernel
theorem dX0_mixture_16 : decode cX0_mixture 16 = .ok (.if_icmp .ge 58, 3) := by decide +kernel
theorem dX0_mixture_19 : decode cX0_mixture 19 = .ok (.iload_n 3, 1) := by decide +kernel
theorem dX0_mixture_20 : decode cX0_mixture 20 = .ok (.iconst 1, 1) := by decide +kernel
theorem dX0_mixture_21 : decode cX0_mixture 21 = .ok (.iadd, 1) := by decide +kernel
theorem dX0_mixture_22 : decode cX0_mixture 22 = .ok (.istore 4, 2) := by decide +kernel
theorem dX0_mixture_24 : decode cX0_mixture 24 = .ok (.iload 4, 2) := by decide +kernel
theorem dX0_mixture_26 : decode cX0_mixture 26 = .ok (.bipush 8, 2) := by decide +kernel
theorem dX0_mixture_28 : decode cX0_mixture 28 = .ok (.if_icmp .ge 40, 3) := by decide +kernel
theorem dX0_mixture_31 : decode cX0_mixture 31 = .ok (.aload_n 0, 1) := by decide +kernel
theorem dX0_mixture_32 : decode cX0_mixture 32 = .ok (.getfield 9, 3) := by decide +kernel
theorem dX0_mixture_35 : decode cX0_mixture 35 = .ok (.iload_n 3, 1) := by decide +kernel
theorem dX0_mixture_36 : decode cX0_mixture 36 = .ok (.invokevirtual 31, 3) := by decide +kernel
theorem dX0_mixture_39 : decode cX0_mixture 39 = .ok (.ifCond .eq 23, 3) := by decide +kernel
theorem dX0_mixture_42 : decode cX0_mixture 42 = .ok (.aload_n 0, 1) := by decide +kernel
theorem dX0_mixture_43 : decode cX0_mixture 43 = .ok (.getfield 9, 3) := by decide +kernel
theorem dX0_mixture_46 : decode cX0_mixture 46 = .ok (.iload 4, 2) := by decide +kernel
theorem dX0_mixture_48 : decode cX0_mixture 48 = .ok (.invokevirtual 31, 3) := by decide +kernel
theorem dX0_mixture_51 : decode cX0_mixture 51 = .ok (.ifCond .eq 11, 3) := by decide +kernel
theorem dX0_mixture_54 : decode cX0_mixture 54 = .ok (.aload_n 0, 1) := by decide +kernel
theorem dX0_mixture_55 : decode cX0_mixture 55 = .ok (.iload_n 1, 1) := by decide +kernel
theorem dX0_mixture_56 : decode cX0_mixture 56 = .ok (.iload_n 3, 1) := by decide +kernel
theorem dX0_mixture_57 : decode cX0_mixture 57 = .ok (.iload 4, 2) := by decide +kernel
theorem dX0_mixture_59 : decode cX0_mixture 59 = .ok (.invokevirtual 66, 3) := by decide +kernel
theorem dX0_mixture_62 : decode cX0_mixture 62 = .ok (.iinc 4 1, 3) := by decide +kernel
theorem dX0_mixture_65 : decode cX0_mixture 65 = .ok (.goto (-41), 3) := by decide +kernel
theorem dX0_mixture_68 : decode cX0_mixture 68 = .ok (.iinc 3 1, 3) := by decide +kernel
theorem dX0_mixture_71 : decode cX0_mixture 71 = .ok (.goto (-58), 3) := by decide +kernel
theorem dX0_mixture_74 : decode cX0_mixture 74 = .ok (.aload_n 0, 1) := by decide +kernel
theorem dX0_mixture_75 : decode cX0_mixture 75 = .ok (.getfield 15, 3) := by decide +kernel
theorem dX0_mixture_78 : decode cX0_mixture 78 = .ok (.iconst 4, 1) := by decide +kernel
theorem dX0_mixture_79 : decode cX0_mixture 79 = .ok (.invokestatic 70, 3) := by decide +kernel
theorem dX0_mixture_82 : decode cX0_mixture 82 = .ok (.sipush 1000, 3) := by decide +kernel
theorem dX0_mixture_85 : decode cX0_mixture 85 = .ok (.if_icmp .ne 8, 3) := by decide +kernel
theorem dX0_mixture_88 : decode cX0_mixture 88 = .ok (.bipush (-6), 2) := by decide +kernel
theorem dX0_mixture_90 : decode cX0_mixture 90 = .ok (.goto 11, 3) := by decide +kernel
theorem dX0_mixture_93 : decode cX0_mixture 93 = .ok (.aload_n 0, 1) := by decide +kernel
theorem dX0_mixture_94 : decode cX0_mixture 94 = .ok (.getfield 15, 3) := by decide +kernel
theorem dX0_mixture_97 : decode cX0_mixture 97 = .ok (.iload_n 2, 1) := by decide +kernel
theorem dX0_mixture_98 : decode cX0_mixture 98 = .ok (.invokestatic 70, 3) := by decide +kernel
theorem dX0_mixture_101 : decode cX0_mixture 101 = .ok (.ireturn, 1) := by decide +kernel
set_option maxRecDepth 20000 in
theorem ggX0_tryParts_X2_allDrops : GoodIn wsX0_tryParts wsX2_allDrops := goodIn_r _ [9, 10, 42, 43, 44, 45, 46, 47, 48, 49, 50, 51, 52, 53] (by decide +kernel) (by decide +kernel)
set_option maxRecDepth 20000 in
theorem gX0_tryParts_X2_allDrops : GoodIn wsX0_tryParts (wsV RX0 45 RX2 yX2_allDrops wsX2_allDrops) := goodIn_app (goodIn_of _ (by decide +kernel)) ggX0_tryParts_X2_allDrops
set_option maxRecDepth 20000 in
theorem ggX0_tryParts_X2_dropsOf : GoodIn wsX0_tryParts wsX2_dropsOf := goodIn_r _ [14, 10, 15, 16, 17, 42, 43, 44, 45, 46, 47, 48, 49, 50, 51, 52, 53] (by decide +kernel) (by decide +kernel)
set_option maxRecDepth 20000 in
theorem gX0_tryParts_X2_dropsOf : GoodIn wsX0_tryParts (wsV RX0 56 RX2 yX2_dropsOf wsX2_dropsOf) := goodIn_app (goodIn_of _ (by decide +kernel)) ggX0_tryParts_X2_dropsOf
set_option maxRecDepth 20000 in
theorem ggX0_tryParts_X4_write : GoodIn wsX0_tryParts wsX4_write := goodIn_r _ [19] (by decide +kernel) (by decide +kernel)
set_option maxRecDepth 20000 in
theorem gX0_tryParts_X4_write_n62 : GoodIn wsX0_tryParts (wsX4_write) := ggX0_tryParts_X4_write
set_option maxRecDepth 20000 in
theorem ggX0_tryParts_X0_mixedStrength : GoodIn wsX0_tryParts wsX0_mixedStrength := goodIn_r _ [24, 2, 3, 15, 16, 17, 25, 26, 36, 37, 38, 39, 40, 41] (by decide +kernel) (by decide +kernel)
set_option maxRecDepth 20000 in
theorem gX0_tryParts_X0_mixedStrength : GoodIn wsX0_tryParts (wsV RX0 74 RX0 yX0_mixedStrength wsX0_mixedStrength) := goodIn_app (goodIn_of _ (by decide +kernel)) ggX0_tryParts_X0_mixedStrength
set_option maxRecDepth 20000 in
theorem ggX0_tryParts_X2_distance : GoodIn wsX0_tryParts wsX2_distance := goodIn_r _ [30, 31, 32, 33, 34, 35, 15, 16, 17, 42, 43, 44, 45, 46, 47, 48, 49, 50, 51, 52, 53] (by decide +kernel) (by decide +kernel)
set_option maxRecDepth 20000 in
theorem gX0_tryParts_X2_distance : GoodIn wsX0_tryParts (wsV RX0 52 RX2 yX2_distance wsX2_distance) := goodIn_app (goodIn_of _ (by decide +kernel)) ggX0_tryParts_X2_distance
set_option maxRecDepth 20000 in
theorem ggX0_tryParts_X4_at : GoodIn wsX0_tryParts wsX4_at := goodIn_r _ [17] (by decide +kernel) (by decide +kernel)
set_option maxRecDepth 20000 in
theorem gX0_tryParts_X4_at_n70 : GoodIn wsX0_tryParts (wsX4_at) := ggX0_tryParts_X4_at
theorem dX0_tryParts_0 : decode cX0_tryParts 0 = .ok (.aload_n 0, 1) := by decide +kernel
theorem dX0_tryParts_1 : decode cX0_tryParts 1 = .ok (.getfield 9, 3) := by decide +kernel
theorem dX0_tryParts_4 : decode cX0_tryParts 4 = .ok (.iload_n 2, 1) := by decide +kernel
theorem dX0_tryParts_5 : decode cX0_tryParts 5 = .ok (.invokevirtual 45, 3) := by decide +kernel
theorem dX0_tryParts_8 : decode cX0_tryParts 8 = .ok (.istore 4, 2) := by decide +kernel
theorem dX0_tryParts_10 : decode cX0_tryParts 10 = .ok (.aload_n 0, 1) := by decide +kernel
theorem dX0_tryParts_11 : decode cX0_tryParts 11 = .ok (.getfield 9, 3) := by decide +kernel
theorem dX0_tryParts_14 : decode cX0_tryParts 14 = .ok (.iload_n 3, 1) := by decide +kernel
theorem dX0_tryParts_15 : decode cX0_tryParts 15 = .ok (.invokevirtual 45, 3) := by decide +kernel
theorem dX0_tryParts_18 : decode cX0_tryParts 18 = .ok (.istore 5, 2) := by decide +kernel
theorem dX0_tryParts_20 : decode cX0_tryParts 20 = .ok (.iconst 0, 1) := by decide +kernel
theorem dX0_tryParts_21 : decode cX0_tryParts 21 = .ok (.istore 6, 2) := by decide +kernel
theorem dX0_tryParts_23 : decode cX0_tryParts 23 = .ok (.iload 6, 2) := by decide +kernel
theorem dX0_tryParts_25 : decode cX0_tryParts 25 = .ok (.iconst 3, 1) := by decide +kernel
theorem dX0_tryParts_26 : decode cX0_tryParts 26 = .ok (.if_icmp .ge 59, 3) := by decide +kernel
theorem dX0_tryParts_29 : decode cX0_tryParts 29 = .ok (.aload_n 0, 1) := by decide +kernel
theorem dX0_tryParts_30 : decode cX0_tryParts 30 = .ok (.getfield 19, 3) := by decide +kernel
theorem dX0_tryParts_33 : decode cX0_tryParts 33 = .ok (.iload 6, 2) := by decide +kernel
theorem dX0_tryParts_35 : decode cX0_tryParts 35 = .ok (.bipush 100, 2) := by decide +kernel
theorem dX0_tryParts_37 : decode cX0_tryParts 37 = .ok (.aload_n 0, 1) := by decide +kernel
theorem dX0_tryParts_38 : decode cX0_tryParts 38 = .ok (.getfield 9, 3) := by decide +kernel
theorem dX0_tryParts_41 : decode cX0_tryParts 41 = .ok (.iload_n 2, 1) := by decide +kernel
theorem dX0_tryParts_42 : decode cX0_tryParts 42 = .ok (.iload 6, 2) := by decide +kernel
theorem dX0_tryParts_44 : decode cX0_tryParts 44 = .ok (.invokevirtual 56, 3) := by decide +kernel
theorem dX0_tryParts_47 : decode cX0_tryParts 47 = .ok (.imul, 1) := by decide +kernel
theorem dX0_tryParts_48 : decode cX0_tryParts 48 = .ok (.iload 5, 2) := by decide +kernel
theorem dX0_tryParts_50 : decode cX0_tryParts 50 = .ok (.imul, 1) := by decide +kernel
theorem dX0_tryParts_51 : decode cX0_tryParts 51 = .ok (.invokestatic 62, 3) := by decide +kernel
theorem dX0_tryParts_54 : decode cX0_tryParts 54 = .ok (.aload_n 0, 1) := by decide +kernel
theorem dX0_tryParts_55 : decode cX0_tryParts 55 = .ok (.getfield 22, 3) := by decide +kernel
theorem dX0_tryParts_58 : decode cX0_tryParts 58 = .ok (.iload 6, 2) := by decide +kernel
theorem dX0_tryParts_60 : decode cX0_tryParts 60 = .ok (.bipush 100, 2) := by decide +kernel
theorem dX0_tryParts_62 : decode cX0_tryParts 62 = .ok (.aload_n 0, 1) := by decide +kernel
theorem dX0_tryParts_63 : decode cX0_tryParts 63 = .ok (.getfield 9, 3) := by decide +kernel
theorem dX0_tryParts_66 : decode cX0_tryParts 66 = .ok (.iload_n 3, 1) := by decide +kernel
theorem dX0_tryParts_67 : decode cX0_tryParts 67 = .ok (.iload 6, 2) := by decide +kernel
theorem dX0_tryParts_69 : decode cX0_tryParts 69 = .ok (.invokevirtual 56, 3) := by decide +kernel
theorem dX0_tryParts_72 : decode cX0_tryParts 72 = .ok (.imul, 1) := by decide +kernel
theorem dX0_tryParts_73 : decode cX0_tryParts 73 = .ok (.iload 4, 2) := by decide +kernel
theorem dX0_tryParts_75 : decode cX0_tryParts 75 = .ok (.imul, 1) := by decide +kernel
theorem dX0_tryParts_76 : decode cX0_tryParts 76 = .ok (.invokestatic 62, 3) := by decide +kernel
theorem dX0_tryParts_79 : decode cX0_tryParts 79 = .ok (.iinc 6 1, 3) := by decide +kernel
theorem dX0_tryParts_82 : decode cX0_tryParts 82 = .ok (.goto (-59), 3) := by decide +kernel
theorem dX0_tryParts_85 : decode cX0_tryParts 85 = .ok (.iconst 1, 1) := by decide +kernel
theorem dX0_tryParts_86 : decode cX0_tryParts 86 = .ok (.istore 6, 2) := by decide +kernel
theorem dX0_tryParts_88 : decode cX0_tryParts 88 = .ok (.iload 6, 2) := by decide +kernel
theorem dX0_tryParts_90 : decode cX0_tryParts 90 = .ok (.bipush 9, 2) := by decide +kernel
theorem dX0_tryParts_92 : decode cX0_tryParts 92 = .ok (.if_icmp .gt 142, 3) := by decide +kernel
theorem dX0_tryParts_95 : decode cX0_tryParts 95 = .ok (.iconst 1, 1) := by decide +kernel
theorem dX0_tryParts_96 : decode cX0_tryParts 96 = .ok (.istore 7, 2) := by decide +kernel
theorem dX0_tryParts_98 : decode cX0_tryParts 98 = .ok (.iload 7, 2) := by decide +kernel
theorem dX0_tryParts_100 : decode cX0_tryParts 100 = .ok (.bipush 9, 2) := by decide +kernel
theorem dX0_tryParts_102 : decode cX0_tryParts 102 = .ok (.if_icmp .gt 126, 3) := by decide +kernel
theorem dX0_tryParts_105 : decode cX0_tryParts 105 = .ok (.iload 4, 2) := by decide +kernel
theorem dX0_tryParts_107 : decode cX0_tryParts 107 = .ok (.iload 5, 2) := by decide +kernel
theorem dX0_tryParts_109 : decode cX0_tryParts 109 = .ok (.imul, 1) := by decide +kernel
theorem dX0_tryParts_110 : decode cX0_tryParts 110 = .ok (.iload 6, 2) := by decide +kernel
theorem dX0_tryParts_112 : decode cX0_tryParts 112 = .ok (.iload 7, 2) := by decide +kernel
theorem dX0_tryParts_114 : decode cX0_tryParts 114 = .ok (.iadd, 1) := by decide +kernel
theorem dX0_tryParts_115 : decode cX0_tryParts 115 = .ok (.imul, 1) := by decide +kernel
theorem dX0_tryParts_116 : decode cX0_tryParts 116 = .ok (.istore 8, 2) := by decide +kernel
theorem dX0_tryParts_118 : decode cX0_tryParts 118 = .ok (.aload_n 0, 1) := by decide +kernel
theorem dX0_tryParts_119 : decode cX0_tryParts 119 = .ok (.getfield 9, 3) := by decide +kernel
theorem dX0_tryParts_122 : decode cX0_tryParts 122 = .ok (.iload_n 1, 1) := by decide +kernel
theorem dX0_tryParts_123 : decode cX0_tryParts 123 = .ok (.aload_n 0, 1) := by decide +kernel
theorem dX0_tryParts_124 : decode cX0_tryParts 124 = .ok (.iconst 0, 1) := by decide +kernel
theorem dX0_tryParts_125 : decode cX0_tryParts 125 = .ok (.iload 6, 2) := by decide +kernel
theorem dX0_tryParts_127 : decode cX0_tryParts 127 = .ok (.iload 7, 2) := by decide +kernel
theorem dX0_tryParts_129 : decode cX0_tryParts 129 = .ok (.iload 8, 2) := by decide +kernel
theorem dX0_tryParts_131 : decode cX0_tryParts 131 = .ok (.invokevirtual 74, 3) := by decide +kernel
theorem dX0_tryParts_134 : decode cX0_tryParts 134 = .ok (.aload_n 0, 1) := by decide +kernel
theorem dX0_tryParts_135 : decode cX0_tryParts 135 = .ok (.iconst 1, 1) := by decide +kernel
theorem dX0_tryParts_136 : decode cX0_tryParts 136 = .ok (.iload 6, 2) := by decide +kernel
theorem dX0_tryParts_138 : decode cX0_tryParts 138 = .ok (.iload 7, 2) := by decide +kernel
theorem dX0_tryParts_140 : decode cX0_tryParts 140 = .ok (.iload 8, 2) := by decide +kernel
theorem dX0_tryParts_142 : decode cX0_tryParts 142 = .ok (.invokevirtual 74, 3) := by decide +kernel
theorem dX0_tryParts_145 : decode cX0_tryParts 145 = .ok (.aload_n 0, 1) := by decide +kernel
theorem dX0_tryParts_146 : decode cX0_tryParts 146 = .ok (.iconst 2, 1) := by decide +kernel
theorem dX0_tryParts_147 : decode cX0_tryParts 147 = .ok (.iload 6, 2) := by decide +kernel
theorem dX0_tryParts_149 : decode cX0_tryParts 149 = .ok (.iload 7, 2) := by decide +kernel
theorem dX0_tryParts_151 : decode cX0_tryParts 151 = .ok (.iload 8, 2) := by decide +kernel
theorem dX0_tryParts_153 : decode cX0_tryParts 153 = .ok (.invokevirtual 74, 3) := by decide +kernel
theorem dX0_tryParts_156 : decode cX0_tryParts 156 = .ok (.invokevirtual 52, 3) := by decide +kernel
theorem dX0_tryParts_159 : decode cX0_tryParts 159 = .ok (.istore 9, 2) := by decide +kernel
theorem dX0_tryParts_161 : decode cX0_tryParts 161 = .ok (.iload 9, 2) := by decide +kernel
theorem dX0_tryParts_163 : decode cX0_tryParts 163 = .ok (.aload_n 0, 1) := by decide +kernel
theorem dX0_tryParts_164 : decode cX0_tryParts 164 = .ok (.getfield 15, 3) := by decide +kernel
theorem dX0_tryParts_167 : decode cX0_tryParts 167 = .ok (.iconst 4, 1) := by decide +kernel
theorem dX0_tryParts_168 : decode cX0_tryParts 168 = .ok (.invokestatic 70, 3) := by decide +kernel
theorem dX0_tryParts_171 : decode cX0_tryParts 171 = .ok (.if_icmp .ge 51, 3) := by decide +kernel
theorem dX0_tryParts_174 : decode cX0_tryParts 174 = .ok (.aload_n 0, 1) := by decide +kernel
theorem dX0_tryParts_175 : decode cX0_tryParts 175 = .ok (.getfield 15, 3) := by decide +kernel
theorem dX0_tryParts_178 : decode cX0_tryParts 178 = .ok (.iconst 0, 1) := by decide +kernel
theorem dX0_tryParts_179 : decode cX0_tryParts 179 = .ok (.iload_n 2, 1) := by decide +kernel
theorem dX0_tryParts_180 : decode cX0_tryParts 180 = .ok (.invokestatic 62, 3) := by decide +kernel
theorem dX0_tryParts_183 : decode cX0_tryParts 183 = .ok (.aload_n 0, 1) := by decide +kernel
theorem dX0_tryParts_184 : decode cX0_tryParts 184 = .ok (.getfield 15, 3) := by decide +kernel
theorem dX0_tryParts_187 : decode cX0_tryParts 187 = .ok (.iconst 1, 1) := by decide +kernel
theorem dX0_tryParts_188 : decode cX0_tryParts 188 = .ok (.iload_n 3, 1) := by decide +kernel
theorem dX0_tryParts_189 : decode cX0_tryParts 189 = .ok (.invokestatic 62, 3) := by decide +kernel
theorem dX0_tryParts_192 : decode cX0_tryParts 192 = .ok (.aload_n 0, 1) := by decide +kernel
theorem dX0_tryParts_193 : decode cX0_tryParts 193 = .ok (.getfield 15, 3) := by decide +kernel
theorem dX0_tryParts_196 : decode cX0_tryParts 196 = .ok (.iconst 2, 1) := by decide +kernel
theorem dX0_tryParts_197 : decode cX0_tryParts 197 = .ok (.iload 6, 2) := by decide +kernel
theorem dX0_tryParts_199 : decode cX0_tryParts 199 = .ok (.invokestatic 62, 3) := by decide +kernel
theorem dX0_tryParts_202 : decode cX0_tryParts 202 = .ok (.aload_n 0, 1) := by decide +kernel
theorem dX0_tryParts_203 : decode cX0_tryParts 203 = .ok (.getfield 15, 3) := by decide +kernel
theorem dX0_tryParts_206 : decode cX0_tryParts 206 = .ok (.iconst 3, 1) := by decide +kernel
theorem dX0_tryParts_207 : decode cX0_tryParts 207 = .ok (.iload 7, 2) := by decide +kernel
theorem dX0_tryParts_209 : decode cX0_tryParts 209 = .ok (.invokestatic 62, 3) := by decide +kernel
theorem dX0_tryParts_212 : decode cX0_tryParts 212 = .ok (.aload_n 0, 1) := by decide +kernel
theorem dX0_tryParts_213 : decode cX0_tryParts 213 = .ok (.getfield 15, 3) := by decide +kernel
theorem dX0_tryParts_216 : decode cX0_tryParts 216 = .ok (.iconst 4, 1) := by decide +kernel
theorem dX0_tryParts_217 : decode cX0_tryParts 217 = .ok (.iload 9, 2) := by decide +kernel
theorem dX0_tryParts_219 : decode cX0_tryParts 219 = .ok (.invokestatic 62, 3) := by decide +kernel
theorem dX0_tryParts_222 : decode cX0_tryParts 222 = .ok (.iinc 7 1, 3) := by decide +kernel
theorem dX0_tryParts_225 : decode cX0_tryParts 225 = .ok (.goto (-127), 3) := by decide +kernel
theorem dX0_tryParts_228 : decode cX0_tryParts 228 = .ok (.iinc 6 1, 3) := by decide +kernel
theorem dX0_tryParts_231 : decode cX0_tryParts 231 = .ok (.goto (-143), 3) := by decide +kernel
theorem dX0_tryParts_234 : decode cX0_tryParts 234 = .ok (.return_, 1) := by decide +kernel
set_option maxRecDepth 20000 in
theorem ggX0_mixedStrength_X4_at : GoodIn wsX0_mixedStrength wsX4_at := goodIn_r _ [5] (by decide +kernel) (by decide +kernel)
set_option maxRecDepth 20000 in
theorem gX0_mixedStrength_X4_at_n70 : GoodIn wsX0_mixedStrength (wsX4_at) := ggX0_mixedStrength_X4_at
set_option maxRecDepth 20000 in
theorem ggX0_mixedStrength_X4_divide : GoodIn wsX0_mixedStrength wsX4_divide := goodIn_r _ [7] (by decide +kernel) (by decide +kernel)
set_option maxRecDepth 20000 in
theorem gX0_mixedStrength_X4_divide_n59 : GoodIn wsX0_mixedStrength (wsX4_divide) := ggX0_mixedStrength_X4_divide
theorem dX0_mixedStrength_0 : decode cX0_mixedStrength 0 = .ok (.aload_n 0, 1) := by decide +kernel
theorem dX0_mixedStrength_1 : decode cX0_mixedStrength 1 = .ok (.getfield 19, 3) := by decide +kernel
theorem dX0_mixedStrength_4 : decode cX0_mixedStrength 4 = .ok (.iload_n 1, 1) := by decide +kernel
theorem dX0_mixedStrength_5 : decode cX0_mixedStrength 5 = .ok (.invokestatic 70, 3) := by decide +kernel
theorem dX0_mixedStrength_8 : decode cX0_mixedStrength 8 = .ok (.iload_n 2, 1) := by decide +kernel
theorem dX0_mixedStrength_9 : decode cX0_mixedStrength 9 = .ok (.imul, 1) := by decide +kernel
theorem dX0_mixedStrength_10 : decode cX0_mixedStrength 10 = .ok (.aload_n 0, 1) := by decide +kernel
theorem dX0_mixedStrength_11 : decode cX0_mixedStrength 11 = .ok (.getfield 22, 3) := by decide +kernel
theorem dX0_mixedStrength_14 : decode cX0_mixedStrength 14 = .ok (.iload_n 1, 1) := by decide +kernel
theorem dX0_mixedStrength_15 : decode cX0_mixedStrength 15 = .ok (.invokestatic 70, 3) := by decide +kernel
theorem dX0_mixedStrength_18 : decode cX0_mixedStrength 18 = .ok (.iload_n 3, 1) := by decide +kernel
theorem dX0_mixedStrength_19 : decode cX0_mixedStrength 19 = .ok (.imul, 1) := by decide +kernel
theorem dX0_mixedStrength_20 : decode cX0_mixedStrength 20 = .ok (.iadd, 1) := by decide +kernel
theorem dX0_mixedStrength_21 : decode cX0_mixedStrength 21 = .ok (.iload 4, 2) := by decide +kernel
theorem dX0_mixedStrength_23 : decode cX0_mixedStrength 23 = .ok (.invokestatic 59, 3) := by decide +kernel
theorem dX0_mixedStrength_26 : decode cX0_mixedStrength 26 = .ok (.ireturn, 1) := by decide +kernel
set_option maxRecDepth 20000 in
theorem ggX0_rinsesFrom_X0_choosePots : GoodIn wsX0_rinsesFrom wsX0_choosePots := goodIn_r _ [6, 1, 7, 8, 9, 5, 10, 11, 12, 13, 14, 15, 16, 17, 18, 19, 20, 21, 22, 23, 24, 25, 26, 27, 28, 29, 30, 31, 32, 33, 34, 35, 36, 37, 38, 39, 40, 41, 42, 43, 44, 45, 46, 47, 48, 49, 50, 51, 52, 53, 54, 55, 56, 57, 58, 59, 60, 61, 62, 63] (by decide +kernel) (by decide +kernel)
set_option maxRecDepth 20000 in
theorem gX0_rinsesFrom_X0_choosePots : GoodIn wsX0_rinsesFrom (wsV RX0 77 RX0 yX0_choosePots wsX0_choosePots) := goodIn_app (goodIn_of _ (by decide +kernel)) ggX0_rinsesFrom_X0_choosePots
set_option maxRecDepth 20000 in
theorem ggX0_rinsesFrom_X4_at : GoodIn wsX0_rinsesFrom wsX4_at := goodIn_r _ [32] (by decide +kernel) (by decide +kernel)
set_option maxRecDepth 20000 in
theorem gX0_rinsesFrom_X4_at_n70 : GoodIn wsX0_rinsesFrom (wsX4_at) := ggX0_rinsesFrom_X4_at
theorem dX0_rinsesFrom_0 : decode cX0_rinsesFrom 0 = .ok (.aload_n 0, 1) := by decide +kernel
theorem dX0_rinsesFrom_1 : decode cX0_rinsesFrom 1 = .ok (.invokevirtual 77, 3) := by decide +kernel
theorem dX0_rinsesFrom_4 : decode cX0_rinsesFrom 4 = .ok (.ifCond .ne 6, 3) := by decide +kernel
theorem dX0_rinsesFrom_7 : decode cX0_rinsesFrom 7 = .ok (.bipush (-6), 2) := by decide +kernel
theorem dX0_rinsesFrom_9 : decode cX0_rinsesFrom 9 = .ok (.ireturn, 1) := by decide +kernel
theorem dX0_rinsesFrom_10 : decode cX0_rinsesFrom 10 = .ok (.iconst 0, 1) := by decide +kernel
theorem dX0_rinsesFrom_11 : decode cX0_rinsesFrom 11 = .ok (.istore_n 2, 1) := by decide +kernel
theorem dX0_rinsesFrom_12 : decode cX0_rinsesFrom 12 = .ok (.iconst 1, 1) := by decide +kernel
theorem dX0_rinsesFrom_13 : decode cX0_rinsesFrom 13 = .ok (.istore_n 3, 1) := by decide +kernel
theorem dX0_rinsesFrom_14 : decode cX0_rinsesFrom 14 = .ok (.iload_n 3, 1) := by decide +kernel
theorem dX0_rinsesFrom_15 : decode cX0_rinsesFrom 15 = .ok (.bipush 6, 2) := by decide +kernel
theorem dX0_rinsesFrom_17 : decode cX0_rinsesFrom 17 = .ok (.if_icmp .ge 56, 3) := by decide +kernel
theorem dX0_rinsesFrom_20 : decode cX0_rinsesFrom 20 = .ok (.iload_n 1, 1) := by decide +kernel
theorem dX0_rinsesFrom_21 : decode cX0_rinsesFrom 21 = .ok (.iload_n 3, 1) := by decide +kernel
theorem dX0_rinsesFrom_22 : decode cX0_rinsesFrom 22 = .ok (.iadd, 1) := by decide +kernel
theorem dX0_rinsesFrom_23 : decode cX0_rinsesFrom 23 = .ok (.bipush 6, 2) := by decide +kernel
theorem dX0_rinsesFrom_25 : decode cX0_rinsesFrom 25 = .ok (.irem, 1) := by decide +kernel
theorem dX0_rinsesFrom_26 : decode cX0_rinsesFrom 26 = .ok (.istore 4, 2) := by decide +kernel
theorem dX0_rinsesFrom_28 : decode cX0_rinsesFrom 28 = .ok (.iload_n 1, 1) := by decide +kernel
theorem dX0_rinsesFrom_29 : decode cX0_rinsesFrom 29 = .ok (.iload_n 3, 1) := by decide +kernel
theorem dX0_rinsesFrom_30 : decode cX0_rinsesFrom 30 = .ok (.iadd, 1) := by decide +kernel
theorem dX0_rinsesFrom_31 : decode cX0_rinsesFrom 31 = .ok (.iconst 1, 1) := by decide +kernel
theorem dX0_rinsesFrom_32 : decode cX0_rinsesFrom 32 = .ok (.isub, 1) := by decide +kernel
theorem dX0_rinsesFrom_33 : decode cX0_rinsesFrom 33 = .ok (.bipush 6, 2) := by decide +kernel
theorem dX0_rinsesFrom_35 : decode cX0_rinsesFrom 35 = .ok (.irem, 1) := by decide +kernel
theorem dX0_rinsesFrom_36 : decode cX0_rinsesFrom 36 = .ok (.istore 5, 2) := by decide +kernel
theorem dX0_rinsesFrom_38 : decode cX0_rinsesFrom 38 = .ok (.iload_n 2, 1) := by decide +kernel
theorem dX0_rinsesFrom_39 : decode cX0_rinsesFrom 39 = .ok (.aload_n 0, 1) := by decide +kernel
theorem dX0_rinsesFrom_40 : decode cX0_rinsesFrom 40 = .ok (.getfield 25, 3) := by decide +kernel
theorem dX0_rinsesFrom_43 : decode cX0_rinsesFrom 43 = .ok (.iload 4, 2) := by decide +kernel
theorem dX0_rinsesFrom_45 : decode cX0_rinsesFrom 45 = .ok (.invokestatic 70, 3) := by decide +kernel
theorem dX0_rinsesFrom_48 : decode cX0_rinsesFrom 48 = .ok (.aload_n 0, 1) := by decide +kernel
theorem dX0_rinsesFrom_49 : decode cX0_rinsesFrom 49 = .ok (.getfield 25, 3) := by decide +kernel
theorem dX0_rinsesFrom_52 : decode cX0_rinsesFrom 52 = .ok (.iload 5, 2) := by decide +kernel
theorem dX0_rinsesFrom_54 : decode cX0_rinsesFrom 54 = .ok (.invokestatic 70, 3) := by decide +kernel
theorem dX0_rinsesFrom_57 : decode cX0_rinsesFrom 57 = .ok (.if_icmp .eq 7, 3) := by decide +kernel
theorem dX0_rinsesFrom_60 : decode cX0_rinsesFrom 60 = .ok (.iconst 1, 1) := by decide +kernel
theorem dX0_rinsesFrom_61 : decode cX0_rinsesFrom 61 = .ok (.goto 4, 3) := by decide +kernel
theorem dX0_rinsesFrom_64 : decode cX0_rinsesFrom 64 = .ok (.iconst 0, 1) := by decide +kernel
theorem dX0_rinsesFrom_65 : decode cX0_rinsesFrom 65 = .ok (.iadd, 1) := by decide +kernel
theorem dX0_rinsesFrom_66 : decode cX0_rinsesFrom 66 = .ok (.istore_n 2, 1) := by decide +kernel
theorem dX0_rinsesFrom_67 : decode cX0_rinsesFrom 67 = .ok (.iinc 3 1, 3) := by decide +kernel
theorem dX0_rinsesFrom_70 : decode cX0_rinsesFrom 70 = .ok (.goto (-56), 3) := by decide +kernel
theorem dX0_rinsesFrom_73 : decode cX0_rinsesFrom 73 = .ok (.iload_n 2, 1) := by decide +kernel
theorem dX0_rinsesFrom_74 : decode cX0_rinsesFrom 74 = .ok (.ireturn, 1) := by decide +kernel
set_option maxRecDepth 20000 in
theorem ggX0_panelInOrder_X0_choosePots : GoodIn wsX0_panelInOrder wsX0_choosePots := goodIn_r _ [7, 1, 8, 9, 10, 6, 11, 12, 13, 14, 15, 16, 17, 18, 19, 20, 21, 22, 23, 24, 25, 26, 27, 28, 29, 30, 31, 32, 33, 34, 35, 36, 37, 38, 39, 40, 41, 42, 43, 44, 45, 46, 51, 52, 53, 54, 55, 56, 57, 58, 59, 60, 61, 62, 63, 64, 65, 66, 67, 68] (by decide +kernel) (by decide +kernel)
set_option maxRecDepth 20000 in
theorem gX0_panelInOrder_X0_choosePots : GoodIn wsX0_panelInOrder (wsV RX0 77 RX0 yX0_choosePots wsX0_choosePots) := goodIn_app (goodIn_of _ (by decide +kernel)) ggX0_panelInOrder_X0_choosePots
set_option maxRecDepth 20000 in
theorem ggX0_panelInOrder_X0_isFirstOfItsPot : GoodIn wsX0_panelInOrder wsX0_isFirstOfItsPot := goodIn_r _ [50, 1, 31, 32, 33, 51, 52, 53, 54, 55, 56] (by decide +kernel) (by decide +kernel)
set_option maxRecDepth 20000 in
theorem gX0_panelInOrder_X0_isFirstOfItsPot : GoodIn wsX0_panelInOrder (wsV RX0 81 RX0 yX0_isFirstOfItsPot wsX0_isFirstOfItsPot) := goodIn_app (goodIn_of _ (by decide +kernel)) ggX0_panelInOrder_X0_isFirstOfItsPot
set_option maxRecDepth 20000 in
theorem ggX0_panelInOrder_X4_at : GoodIn wsX0_panelInOrder wsX4_at := goodIn_r _ [33] (by decide +kernel) (by decide +kernel)
set_option maxRecDepth 20000 in
theorem gX0_panelInOrder_X4_at_n70 : GoodIn wsX0_panelInOrder (wsX4_at) := ggX0_panelInOrder_X4_at
set_option maxRecDepth 20000 in
theorem ggX0_panelInOrder_X4_write : GoodIn wsX0_panelInOrder wsX4_write := goodIn_r _ [46] (by decide +kernel) (by decide +kernel)
set_option maxRecDepth 20000 in
theorem gX0_panelInOrder_X4_write_n62 : GoodIn wsX0_panelInOrder (wsX4_write) := ggX0_panelInOrder_X4_write
theorem dX0_panelInOrder_0 : decode cX0_panelInOrder 0 = .ok (.aload_n 0, 1) := by decide +kernel
theorem dX0_panelInOrder_1 : decode cX0_panelInOrder 1 = .ok (.invokevirtual 77, 3) := by decide +kernel
theorem dX0_panelInOrder_4 : decode cX0_panelInOrder 4 = .ok (.ifCond .ne 6, 3) := by decide +kernel
theorem dX0_panelInOrder_7 : decode cX0_panelInOrder 7 = .ok (.bipush (-6), 2) := by decide +kernel
theorem dX0_panelInOrder_9 : decode cX0_panelInOrder 9 = .ok (.ireturn, 1) := by decide +kernel
theorem dX0_panelInOrder_10 : decode cX0_panelInOrder 10 = .ok (.iconst 0, 1) := by decide +kernel
theorem dX0_panelInOrder_11 : decode cX0_panelInOrder 11 = .ok (.istore_n 2, 1) := by decide +kernel
theorem dX0_panelInOrder_12 : decode cX0_panelInOrder 12 = .ok (.iconst 0, 1) := by decide +kernel
theorem dX0_panelInOrder_13 : decode cX0_panelInOrder 13 = .ok (.istore_n 3, 1) := by decide +kernel
theorem dX0_panelInOrder_14 : decode cX0_panelInOrder 14 = .ok (.iload_n 3, 1) := by decide +kernel
theorem dX0_panelInOrder_15 : decode cX0_panelInOrder 15 = .ok (.bipush 6, 2) := by decide +kernel
theorem dX0_panelInOrder_17 : decode cX0_panelInOrder 17 = .ok (.if_icmp .ge 66, 3) := by decide +kernel
theorem dX0_panelInOrder_20 : decode cX0_panelInOrder 20 = .ok (.aload_n 0, 1) := by decide +kernel
theorem dX0_panelInOrder_21 : decode cX0_panelInOrder 21 = .ok (.iload_n 3, 1) := by decide +kernel
theorem dX0_panelInOrder_22 : decode cX0_panelInOrder 22 = .ok (.invokevirtual 81, 3) := by decide +kernel
theorem dX0_panelInOrder_25 : decode cX0_panelInOrder 25 = .ok (.ifCond .eq 52, 3) := by decide +kernel
theorem dX0_panelInOrder_28 : decode cX0_panelInOrder 28 = .ok (.iload_n 3, 1) := by decide +kernel
theorem dX0_panelInOrder_29 : decode cX0_panelInOrder 29 = .ok (.istore 4, 2) := by decide +kernel
theorem dX0_panelInOrder_31 : decode cX0_panelInOrder 31 = .ok (.iload 4, 2) := by decide +kernel
theorem dX0_panelInOrder_33 : decode cX0_panelInOrder 33 = .ok (.bipush 6, 2) := by decide +kernel
theorem dX0_panelInOrder_35 : decode cX0_panelInOrder 35 = .ok (.if_icmp .ge 42, 3) := by decide +kernel
theorem dX0_panelInOrder_38 : decode cX0_panelInOrder 38 = .ok (.aload_n 0, 1) := by decide +kernel
theorem dX0_panelInOrder_39 : decode cX0_panelInOrder 39 = .ok (.getfield 25, 3) := by decide +kernel
theorem dX0_panelInOrder_42 : decode cX0_panelInOrder 42 = .ok (.iload 4, 2) := by decide +kernel
theorem dX0_panelInOrder_44 : decode cX0_panelInOrder 44 = .ok (.invokestatic 70, 3) := by decide +kernel
theorem dX0_panelInOrder_47 : decode cX0_panelInOrder 47 = .ok (.aload_n 0, 1) := by decide +kernel
theorem dX0_panelInOrder_48 : decode cX0_panelInOrder 48 = .ok (.getfield 25, 3) := by decide +kernel
theorem dX0_panelInOrder_51 : decode cX0_panelInOrder 51 = .ok (.iload_n 3, 1) := by decide +kernel
theorem dX0_panelInOrder_52 : decode cX0_panelInOrder 52 = .ok (.invokestatic 70, 3) := by decide +kernel
theorem dX0_panelInOrder_55 : decode cX0_panelInOrder 55 = .ok (.if_icmp .ne 16, 3) := by decide +kernel
theorem dX0_panelInOrder_58 : decode cX0_panelInOrder 58 = .ok (.aload_n 0, 1) := by decide +kernel
theorem dX0_panelInOrder_59 : decode cX0_panelInOrder 59 = .ok (.getfield 28, 3) := by decide +kernel
theorem dX0_panelInOrder_62 : decode cX0_panelInOrder 62 = .ok (.iload_n 2, 1) := by decide +kernel
theorem dX0_panelInOrder_63 : decode cX0_panelInOrder 63 = .ok (.iload 4, 2) := by decide +kernel
theorem dX0_panelInOrder_65 : decode cX0_panelInOrder 65 = .ok (.invokestatic 62, 3) := by decide +kernel
theorem dX0_panelInOrder_68 : decode cX0_panelInOrder 68 = .ok (.iinc 2 1, 3) := by decide +kernel
theorem dX0_panelInOrder_71 : decode cX0_panelInOrder 71 = .ok (.iinc 4 1, 3) := by decide +kernel
theorem dX0_panelInOrder_74 : decode cX0_panelInOrder 74 = .ok (.goto (-43), 3) := by decide +kernel
theorem dX0_panelInOrder_77 : decode cX0_panelInOrder 77 = .ok (.iinc 3 1, 3) := by decide +kernel
theorem dX0_panelInOrder_80 : decode cX0_panelInOrder 80 = .ok (.goto (-66), 3) := by decide +kernel
theorem dX0_panelInOrder_83 : decode cX0_panelInOrder 83 = .ok (.aload_n 0, 1) := by decide +kernel
theorem dX0_panelInOrder_84 : decode cX0_panelInOrder 84 = .ok (.getfield 28, 3) := by decide +kernel
theorem dX0_panelInOrder_87 : decode cX0_panelInOrder 87 = .ok (.iload_n 1, 1) := by decide +kernel
theorem dX0_panelInOrder_88 : decode cX0_panelInOrder 88 = .ok (.invokestatic 70, 3) := by decide +kernel
theorem dX0_panelInOrder_91 : decode cX0_panelInOrder 91 = .ok (.ireturn, 1) := by decide +kernel
set_option maxRecDepth 20000 in
theorem ggX0_isFirstOfItsPot_X4_at : GoodIn wsX0_isFirstOfItsPot wsX4_at := goodIn_r _ [4] (by decide +kernel) (by decide +kernel)
set_option maxRecDepth 20000 in
theorem gX0_isFirstOfItsPot_X4_at_n70 : GoodIn wsX0_isFirstOfItsPot (wsX4_at) := ggX0_isFirstOfItsPot_X4_at
theorem dX0_isFirstOfItsPot_0 : decode cX0_isFirstOfItsPot 0 = .ok (.iconst 0, 1) := by decide +kernel
theorem dX0_isFirstOfItsPot_1 : decode cX0_isFirstOfItsPot 1 = .ok (.istore_n 2, 1) := by decide +kernel
theorem dX0_isFirstOfItsPot_2 : decode cX0_isFirstOfItsPot 2 = .ok (.iload_n 2, 1) := by decide +kernel
theorem dX0_isFirstOfItsPot_3 : decode cX0_isFirstOfItsPot 3 = .ok (.iload_n 1, 1) := by decide +kernel
theorem dX0_isFirstOfItsPot_4 : decode cX0_isFirstOfItsPot 4 = .ok (.if_icmp .ge 30, 3) := by decide +kernel
theorem dX0_isFirstOfItsPot_7 : decode cX0_isFirstOfItsPot 7 = .ok (.aload_n 0, 1) := by decide +kernel
theorem dX0_isFirstOfItsPot_8 : decode cX0_isFirstOfItsPot 8 = .ok (.getfield 25, 3) := by decide +kernel
theorem dX0_isFirstOfItsPot_11 : decode cX0_isFirstOfItsPot 11 = .ok (.iload_n 2, 1) := by decide +kernel
theorem dX0_isFirstOfItsPot_12 : decode cX0_isFirstOfItsPot 12 = .ok (.invokestatic 70, 3) := by decide +kernel
theorem dX0_isFirstOfItsPot_15 : decode cX0_isFirstOfItsPot 15 = .ok (.aload_n 0, 1) := by decide +kernel
theorem dX0_isFirstOfItsPot_16 : decode cX0_isFirstOfItsPot 16 = .ok (.getfield 25, 3) := by decide +kernel
theorem dX0_isFirstOfItsPot_19 : decode cX0_isFirstOfItsPot 19 = .ok (.iload_n 1, 1) := by decide +kernel
theorem dX0_isFirstOfItsPot_20 : decode cX0_isFirstOfItsPot 20 = .ok (.invokestatic 70, 3) := by decide +kernel
theorem dX0_isFirstOfItsPot_23 : decode cX0_isFirstOfItsPot 23 = .ok (.if_icmp .ne 5, 3) := by decide +kernel
theorem dX0_isFirstOfItsPot_26 : decode cX0_isFirstOfItsPot 26 = .ok (.iconst 0, 1) := by decide +kernel
theorem dX0_isFirstOfItsPot_27 : decode cX0_isFirstOfItsPot 27 = .ok (.ireturn, 1) := by decide +kernel
theorem dX0_isFirstOfItsPot_28 : decode cX0_isFirstOfItsPot 28 = .ok (.iinc 2 1, 3) := by decide +kernel
theorem dX0_isFirstOfItsPot_31 : decode cX0_isFirstOfItsPot 31 = .ok (.goto (-29), 3) := by decide +kernel
theorem dX0_isFirstOfItsPot_34 : decode cX0_isFirstOfItsPot 34 = .ok (.iconst 1, 1) := by decide +kernel
theorem dX0_isFirstOfItsPot_35 : decode cX0_isFirstOfItsPot 35 = .ok (.ireturn, 1) := by decide +kernel
set_option maxRecDepth 20000 in
theorem ggX0_choosePots_X0_nearestPot : GoodIn wsX0_choosePots wsX0_nearestPot := goodIn_r _ [6, 7, 8, 9, 10, 11, 12, 13, 14, 15, 16, 17, 18, 19, 20, 21, 22, 23, 24, 25, 26, 27, 28, 29, 30, 31, 32, 33, 34, 35, 36, 37, 38, 39, 42, 43, 44, 45, 46, 47, 48, 49, 50, 51, 52, 53, 54, 55, 56, 57, 58, 59] (by decide +kernel) (by decide +kernel)
set_option maxRecDepth 20000 in
theorem gX0_choosePots_X0_nearestPot : GoodIn wsX0_choosePots (wsV RX0 84 RX0 yX0_nearestPot wsX0_nearestPot) := goodIn_app (goodIn_of _ (by decide +kernel)) ggX0_choosePots_X0_nearestPot
set_option maxRecDepth 20000 in
theorem ggX0_choosePots_X4_write : GoodIn wsX0_choosePots wsX4_write := goodIn_r _ [41] (by decide +kernel) (by decide +kernel)
set_option maxRecDepth 20000 in
theorem gX0_choosePots_X4_write_n62 : GoodIn wsX0_choosePots (wsX4_write) := ggX0_choosePots_X4_write
set_option maxRecDepth 20000 in
theorem ggX0_choosePots_X4_at : GoodIn wsX0_choosePots wsX4_at := goodIn_r _ [28] (by decide +kernel) (by decide +kernel)
set_option maxRecDepth 20000 in
theorem gX0_choosePots_X4_at_n70 : GoodIn wsX0_choosePots (wsX4_at) := ggX0_choosePots_X4_at
theorem dX0_choosePots_0 : decode cX0_choosePots 0 = .ok (.iconst 0, 1) := by decide +kernel
theorem dX0_choosePots_1 : decode cX0_choosePots 1 = .ok (.istore_n 1, 1) := by decide +kernel
theorem dX0_choosePots_2 : decode cX0_choosePots 2 = .ok (.iload_n 1, 1) := by decide +kernel
theorem dX0_choosePots_3 : decode cX0_choosePots 3 = .ok (.bipush 6, 2) := by decide +kernel
theorem dX0_choosePots_5 : decode cX0_choosePots 5 = .ok (.if_icmp .ge 22, 3) := by decide +kernel
theorem dX0_choosePots_8 : decode cX0_choosePots 8 = .ok (.aload_n 0, 1) := by decide +kernel
theorem dX0_choosePots_9 : decode cX0_choosePots 9 = .ok (.getfield 25, 3) := by decide +kernel
theorem dX0_choosePots_12 : decode cX0_choosePots 12 = .ok (.iload_n 1, 1) := by decide +kernel
theorem dX0_choosePots_13 : decode cX0_choosePots 13 = .ok (.aload_n 0, 1) := by decide +kernel
theorem dX0_choosePots_14 : decode cX0_choosePots 14 = .ok (.iload_n 1, 1) := by decide +kernel
theorem dX0_choosePots_15 : decode cX0_choosePots 15 = .ok (.invokevirtual 84, 3) := by decide +kernel
theorem dX0_choosePots_18 : decode cX0_choosePots 18 = .ok (.invokestatic 62, 3) := by decide +kernel
theorem dX0_choosePots_21 : decode cX0_choosePots 21 = .ok (.iinc 1 1, 3) := by decide +kernel
theorem dX0_choosePots_24 : decode cX0_choosePots 24 = .ok (.goto (-22), 3) := by decide +kernel
theorem dX0_choosePots_27 : decode cX0_choosePots 27 = .ok (.aload_n 0, 1) := by decide +kernel
theorem dX0_choosePots_28 : decode cX0_choosePots 28 = .ok (.getfield 25, 3) := by decide +kernel
theorem dX0_choosePots_31 : decode cX0_choosePots 31 = .ok (.iconst 0, 1) := by decide +kernel
theorem dX0_choosePots_32 : decode cX0_choosePots 32 = .ok (.invokestatic 70, 3) := by decide +kernel
theorem dX0_choosePots_35 : decode cX0_choosePots 35 = .ok (.bipush (-6), 2) := by decide +kernel
theorem dX0_choosePots_37 : decode cX0_choosePots 37 = .ok (.if_icmp .eq 7, 3) := by decide +kernel
theorem dX0_choosePots_40 : decode cX0_choosePots 40 = .ok (.iconst 1, 1) := by decide +kernel
theorem dX0_choosePots_41 : decode cX0_choosePots 41 = .ok (.goto 4, 3) := by decide +kernel
theorem dX0_choosePots_44 : decode cX0_choosePots 44 = .ok (.iconst 0, 1) := by decide +kernel
theorem dX0_choosePots_45 : decode cX0_choosePots 45 = .ok (.ireturn, 1) := by decide +kernel
set_option maxRecDepth 20000 in
theorem ggX1_init_X3_init : GoodIn wsX1_init wsX3_init := goodIn_r _ [14, 15, 2, 3, 4, 16, 17, 18, 19, 10, 20, 21, 22, 23, 24, 25, 26, 27, 32, 33, 34, 35, 36] (by decide +kernel) (by decide +kernel)
set_option maxRecDepth 20000 in
theorem gX1_init_X3_init : GoodIn wsX1_init (wsX3_init) := ggX1_init_X3_init
theorem dX1_init_0 : decode cX1_init 0 = .ok (.aload_n 0, 1) := by decide +kernel
theorem dX1_init_1 : decode cX1_init 1 = .ok (.invokespecial 3, 3) := by decide +kernel
theorem dX1_init_4 : decode cX1_init 4 = .ok (.aload_n 0, 1) := by decide +kernel
theorem dX1_init_5 : decode cX1_init 5 = .ok (.bipush 60, 2) := by decide +kernel
theorem dX1_init_7 : decode cX1_init 7 = .ok (.newarray .int, 2) := by decide +kernel
theorem dX1_init_9 : decode cX1_init 9 = .ok (.putfield 9, 3) := by decide +kernel
theorem dX1_init_12 : decode cX1_init 12 = .ok (.aload_n 0, 1) := by decide +kernel
theorem dX1_init_13 : decode cX1_init 13 = .ok (.iconst 0, 1) := by decide +kernel
theorem dX1_init_14 : decode cX1_init 14 = .ok (.putfield 15, 3) := by decide +kernel
theorem dX1_init_17 : decode cX1_init 17 = .ok (.aload_n 0, 1) := by decide +kernel
theorem dX1_init_18 : decode cX1_init 18 = .ok (.iconst 0, 1) := by decide +kernel
theorem dX1_init_19 : decode cX1_init 19 = .ok (.putfield 19, 3) := by decide +kernel
theorem dX1_init_22 : decode cX1_init 22 = .ok (.aload_n 0, 1) := by decide +kernel
theorem dX1_init_23 : decode cX1_init 23 = .ok (.new 22, 3) := by decide +kernel
theorem dX1_init_26 : decode cX1_init 26 = .ok (.dup, 1) := by decide +kernel
theorem dX1_init_27 : decode cX1_init 27 = .ok (.invokespecial 24, 3) := by decide +kernel
theorem dX1_init_30 : decode cX1_init 30 = .ok (.putfield 25, 3) := by decide +kernel
theorem dX1_init_33 : decode cX1_init 33 = .ok (.return_, 1) := by decide +kernel
theorem dX1_length_0 : decode cX1_length 0 = .ok (.aload_n 0, 1) := by decide +kernel
theorem dX1_length_1 : decode cX1_length 1 = .ok (.getfield 15, 3) := by decide +kernel
theorem dX1_length_4 : decode cX1_length 4 = .ok (.ireturn, 1) := by decide +kernel
set_option maxRecDepth 20000 in
theorem ggX2_init_X4_write : GoodIn wsX2_init wsX4_write := goodIn_r _ [19] (by decide +kernel) (by decide +kernel)
set_option maxRecDepth 20000 in
theorem gX2_init_X4_write_n15 : GoodIn wsX2_init (wsX4_write) := ggX2_init_X4_write
