theorem dX2_init_0 : decode cX2_init 0 = .ok (.aload_n 0, 1) := by decide +kernel
theorem dX2_init_1 : decode cX2_init 1 = .ok (.invokespecial 3, 3) := by decide +kernel
theorem dX2_init_4 : decode cX2_init 4 = .ok (.aload_n 0, 1) := by decide +kernel
theorem dX2_init_5 : decode cX2_init 5 = .ok (.iconst 2, 1) := by decide +kernel
theorem dX2_init_6 : decode cX2_init 6 = .ok (.newarray .int, 2) := by decide +kernel
theorem dX2_init_8 : decode cX2_init 8 = .ok (.putfield 9, 3) := by decide +kernel
theorem dX2_init_11 : decode cX2_init 11 = .ok (.aload_n 0, 1) := by decide +kernel
theorem dX2_init_12 : decode cX2_init 12 = .ok (.getfield 9, 3) := by decide +kernel
theorem dX2_init_15 : decode cX2_init 15 = .ok (.iconst 0, 1) := by decide +kernel
theorem dX2_init_16 : decode cX2_init 16 = .ok (.iconst 3, 1) := by decide +kernel
theorem dX2_init_17 : decode cX2_init 17 = .ok (.invokestatic 15, 3) := by decide +kernel
theorem dX2_init_20 : decode cX2_init 20 = .ok (.aload_n 0, 1) := by decide +kernel
theorem dX2_init_21 : decode cX2_init 21 = .ok (.getfield 9, 3) := by decide +kernel
theorem dX2_init_24 : decode cX2_init 24 = .ok (.iconst 1, 1) := by decide +kernel
theorem dX2_init_25 : decode cX2_init 25 = .ok (.bipush 15, 2) := by decide +kernel
theorem dX2_init_27 : decode cX2_init 27 = .ok (.invokestatic 15, 3) := by decide +kernel
theorem dX2_init_30 : decode cX2_init 30 = .ok (.aload_n 0, 1) := by decide +kernel
theorem dX2_init_31 : decode cX2_init 31 = .ok (.bipush 36, 2) := by decide +kernel
theorem dX2_init_33 : decode cX2_init 33 = .ok (.newarray .int, 2) := by decide +kernel
theorem dX2_init_35 : decode cX2_init 35 = .ok (.putfield 19, 3) := by decide +kernel
theorem dX2_init_38 : decode cX2_init 38 = .ok (.aload_n 0, 1) := by decide +kernel
theorem dX2_init_39 : decode cX2_init 39 = .ok (.bipush 8, 2) := by decide +kernel
theorem dX2_init_41 : decode cX2_init 41 = .ok (.newarray .int, 2) := by decide +kernel
theorem dX2_init_43 : decode cX2_init 43 = .ok (.putfield 22, 3) := by decide +kernel
theorem dX2_init_46 : decode cX2_init 46 = .ok (.aload_n 0, 1) := by decide +kernel
theorem dX2_init_47 : decode cX2_init 47 = .ok (.bipush 18, 2) := by decide +kernel
theorem dX2_init_49 : decode cX2_init 49 = .ok (.newarray .int, 2) := by decide +kernel
theorem dX2_init_51 : decode cX2_init 51 = .ok (.putfield 25, 3) := by decide +kernel
theorem dX2_init_54 : decode cX2_init 54 = .ok (.aload_n 0, 1) := by decide +kernel
theorem dX2_init_55 : decode cX2_init 55 = .ok (.bipush 18, 2) := by decide +kernel
theorem dX2_init_57 : decode cX2_init 57 = .ok (.newarray .int, 2) := by decide +kernel
theorem dX2_init_59 : decode cX2_init 59 = .ok (.putfield 28, 3) := by decide +kernel
theorem dX2_init_62 : decode cX2_init 62 = .ok (.aload_n 0, 1) := by decide +kernel
theorem dX2_init_63 : decode cX2_init 63 = .ok (.bipush 6, 2) := by decide +kernel
theorem dX2_init_65 : decode cX2_init 65 = .ok (.newarray .int, 2) := by decide +kernel
theorem dX2_init_67 : decode cX2_init 67 = .ok (.putfield 31, 3) := by decide +kernel
theorem dX2_init_70 : decode cX2_init 70 = .ok (.aload_n 0, 1) := by decide +kernel
theorem dX2_init_71 : decode cX2_init 71 = .ok (.iconst 0, 1) := by decide +kernel
theorem dX2_init_72 : decode cX2_init 72 = .ok (.putfield 34, 3) := by decide +kernel
theorem dX2_init_75 : decode cX2_init 75 = .ok (.aload_n 0, 1) := by decide +kernel
theorem dX2_init_76 : decode cX2_init 76 = .ok (.iconst 0, 1) := by decide +kernel
theorem dX2_init_77 : decode cX2_init 77 = .ok (.putfield 38, 3) := by decide +kernel
theorem dX2_init_80 : decode cX2_init 80 = .ok (.aload_n 0, 1) := by decide +kernel
theorem dX2_init_81 : decode cX2_init 81 = .ok (.iconst 0, 1) := by decide +kernel
theorem dX2_init_82 : decode cX2_init 82 = .ok (.putfield 41, 3) := by decide +kernel
theorem dX2_init_85 : decode cX2_init 85 = .ok (.aload_n 0, 1) := by decide +kernel
theorem dX2_init_86 : decode cX2_init 86 = .ok (.iconst 0, 1) := by decide +kernel
theorem dX2_init_87 : decode cX2_init 87 = .ok (.putfield 44, 3) := by decide +kernel
theorem dX2_init_90 : decode cX2_init 90 = .ok (.aload_n 0, 1) := by decide +kernel
theorem dX2_init_91 : decode cX2_init 91 = .ok (.iconst 4, 1) := by decide +kernel
theorem dX2_init_92 : decode cX2_init 92 = .ok (.newarray .int, 2) := by decide +kernel
theorem dX2_init_94 : decode cX2_init 94 = .ok (.putfield 47, 3) := by decide +kernel
theorem dX2_init_97 : decode cX2_init 97 = .ok (.aload_n 0, 1) := by decide +kernel
theorem dX2_init_98 : decode cX2_init 98 = .ok (.iconst 4, 1) := by decide +kernel
theorem dX2_init_99 : decode cX2_init 99 = .ok (.newarray .int, 2) := by decide +kernel
theorem dX2_init_101 : decode cX2_init 101 = .ok (.putfield 50, 3) := by decide +kernel
theorem dX2_init_104 : decode cX2_init 104 = .ok (.return_, 1) := by decide +kernel
set_option maxRecDepth 20000 in
theorem ggX2_copyFrom_X4_copyRow : GoodIn wsX2_copyFrom wsX4_copyRow := goodIn_r _ [13, 14, 15, 16, 17, 18, 19, 20, 21] (by decide +kernel) (by decide +kernel)
set_option maxRecDepth 20000 in
theorem gX2_copyFrom_X4_copyRow_n53 : GoodIn wsX2_copyFrom (wsX4_copyRow) := ggX2_copyFrom_X4_copyRow
theorem dX2_copyFrom_0 : decode cX2_copyFrom 0 = .ok (.aload_n 1, 1) := by decide +kernel
theorem dX2_copyFrom_1 : decode cX2_copyFrom 1 = .ok (.ifnonnull 4, 3) := by decide +kernel
theorem dX2_copyFrom_4 : decode cX2_copyFrom 4 = .ok (.return_, 1) := by decide +kernel
theorem dX2_copyFrom_5 : decode cX2_copyFrom 5 = .ok (.aload_n 1, 1) := by decide +kernel
theorem dX2_copyFrom_6 : decode cX2_copyFrom 6 = .ok (.getfield 9, 3) := by decide +kernel
theorem dX2_copyFrom_9 : decode cX2_copyFrom 9 = .ok (.aload_n 0, 1) := by decide +kernel
theorem dX2_copyFrom_10 : decode cX2_copyFrom 10 = .ok (.getfield 9, 3) := by decide +kernel
theorem dX2_copyFrom_13 : decode cX2_copyFrom 13 = .ok (.invokestatic 53, 3) := by decide +kernel
theorem dX2_copyFrom_16 : decode cX2_copyFrom 16 = .ok (.aload_n 1, 1) := by decide +kernel
theorem dX2_copyFrom_17 : decode cX2_copyFrom 17 = .ok (.getfield 19, 3) := by decide +kernel
theorem dX2_copyFrom_20 : decode cX2_copyFrom 20 = .ok (.aload_n 0, 1) := by decide +kernel
theorem dX2_copyFrom_21 : decode cX2_copyFrom 21 = .ok (.getfield 19, 3) := by decide +kernel
theorem dX2_copyFrom_24 : decode cX2_copyFrom 24 = .ok (.invokestatic 53, 3) := by decide +kernel
theorem dX2_copyFrom_27 : decode cX2_copyFrom 27 = .ok (.aload_n 1, 1) := by decide +kernel
theorem dX2_copyFrom_28 : decode cX2_copyFrom 28 = .ok (.getfield 22, 3) := by decide +kernel
theorem dX2_copyFrom_31 : decode cX2_copyFrom 31 = .ok (.aload_n 0, 1) := by decide +kernel
theorem dX2_copyFrom_32 : decode cX2_copyFrom 32 = .ok (.getfield 22, 3) := by decide +kernel
theorem dX2_copyFrom_35 : decode cX2_copyFrom 35 = .ok (.invokestatic 53, 3) := by decide +kernel
theorem dX2_copyFrom_38 : decode cX2_copyFrom 38 = .ok (.aload_n 1, 1) := by decide +kernel
theorem dX2_copyFrom_39 : decode cX2_copyFrom 39 = .ok (.getfield 25, 3) := by decide +kernel
theorem dX2_copyFrom_42 : decode cX2_copyFrom 42 = .ok (.aload_n 0, 1) := by decide +kernel
theorem dX2_copyFrom_43 : decode cX2_copyFrom 43 = .ok (.getfield 25, 3) := by decide +kernel
theorem dX2_copyFrom_46 : decode cX2_copyFrom 46 = .ok (.invokestatic 53, 3) := by decide +kernel
theorem dX2_copyFrom_49 : decode cX2_copyFrom 49 = .ok (.aload_n 1, 1) := by decide +kernel
theorem dX2_copyFrom_50 : decode cX2_copyFrom 50 = .ok (.getfield 28, 3) := by decide +kernel
theorem dX2_copyFrom_53 : decode cX2_copyFrom 53 = .ok (.aload_n 0, 1) := by decide +kernel
theorem dX2_copyFrom_54 : decode cX2_copyFrom 54 = .ok (.getfield 28, 3) := by decide +kernel
theorem dX2_copyFrom_57 : decode cX2_copyFrom 57 = .ok (.invokestatic 53, 3) := by decide +kernel
theorem dX2_copyFrom_60 : decode cX2_copyFrom 60 = .ok (.aload_n 1, 1) := by decide +kernel
theorem dX2_copyFrom_61 : decode cX2_copyFrom 61 = .ok (.getfield 31, 3) := by decide +kernel
theorem dX2_copyFrom_64 : decode cX2_copyFrom 64 = .ok (.aload_n 0, 1) := by decide +kernel
theorem dX2_copyFrom_65 : decode cX2_copyFrom 65 = .ok (.getfield 31, 3) := by decide +kernel
theorem dX2_copyFrom_68 : decode cX2_copyFrom 68 = .ok (.invokestatic 53, 3) := by decide +kernel
theorem dX2_copyFrom_71 : decode cX2_copyFrom 71 = .ok (.aload_n 0, 1) := by decide +kernel
theorem dX2_copyFrom_72 : decode cX2_copyFrom 72 = .ok (.aload_n 1, 1) := by decide +kernel
theorem dX2_copyFrom_73 : decode cX2_copyFrom 73 = .ok (.getfield 34, 3) := by decide +kernel
theorem dX2_copyFrom_76 : decode cX2_copyFrom 76 = .ok (.putfield 34, 3) := by decide +kernel
theorem dX2_copyFrom_79 : decode cX2_copyFrom 79 = .ok (.aload_n 0, 1) := by decide +kernel
theorem dX2_copyFrom_80 : decode cX2_copyFrom 80 = .ok (.aload_n 1, 1) := by decide +kernel
theorem dX2_copyFrom_81 : decode cX2_copyFrom 81 = .ok (.getfield 38, 3) := by decide +kernel
theorem dX2_copyFrom_84 : decode cX2_copyFrom 84 = .ok (.putfield 38, 3) := by decide +kernel
theorem dX2_copyFrom_87 : decode cX2_copyFrom 87 = .ok (.aload_n 0, 1) := by decide +kernel
theorem dX2_copyFrom_88 : decode cX2_copyFrom 88 = .ok (.aload_n 1, 1) := by decide +kernel
theorem dX2_copyFrom_89 : decode cX2_copyFrom 89 = .ok (.getfield 41, 3) := by decide +kernel
theorem dX2_copyFrom_92 : decode cX2_copyFrom 92 = .ok (.putfield 41, 3) := by decide +kernel
theorem dX2_copyFrom_95 : decode cX2_copyFrom 95 = .ok (.aload_n 0, 1) := by decide +kernel
theorem dX2_copyFrom_96 : decode cX2_copyFrom 96 = .ok (.aload_n 1, 1) := by decide +kernel
theorem dX2_copyFrom_97 : decode cX2_copyFrom 97 = .ok (.getfield 44, 3) := by decide +kernel
theorem dX2_copyFrom_100 : decode cX2_copyFrom 100 = .ok (.putfield 44, 3) := by decide +kernel
theorem dX2_copyFrom_103 : decode cX2_copyFrom 103 = .ok (.return_, 1) := by decide +kernel
set_option maxRecDepth 20000 in
theorem ggX2_changeSetting_X4_isBetween : GoodIn wsX2_changeSetting wsX4_isBetween := goodIn_r _ [4] (by decide +kernel) (by decide +kernel)
set_option maxRecDepth 20000 in
theorem gX2_changeSetting_X4_isBetween_n57 : GoodIn wsX2_changeSetting (wsX4_isBetween) := ggX2_changeSetting_X4_isBetween
set_option maxRecDepth 20000 in
theorem ggX2_changeSetting_X4_at : GoodIn wsX2_changeSetting wsX4_at := goodIn_r _ [6] (by decide +kernel) (by decide +kernel)
set_option maxRecDepth 20000 in
theorem gX2_changeSetting_X4_at_n61 : GoodIn wsX2_changeSetting (wsX4_at) := ggX2_changeSetting_X4_at
set_option maxRecDepth 20000 in
theorem ggX2_changeSetting_X4_write : GoodIn wsX2_changeSetting wsX4_write := goodIn_r _ [8] (by decide +kernel) (by decide +kernel)
set_option maxRecDepth 20000 in
theorem gX2_changeSetting_X4_write_n15 : GoodIn wsX2_changeSetting (wsX4_write) := ggX2_changeSetting_X4_write
theorem dX2_changeSetting_0 : decode cX2_changeSetting 0 = .ok (.iload_n 1, 1) := by decide +kernel
theorem dX2_changeSetting_1 : decode cX2_changeSetting 1 = .ok (.ifCond .ne 13, 3) := by decide +kernel
theorem dX2_changeSetting_4 : decode cX2_changeSetting 4 = .ok (.iload_n 2, 1) := by decide +kernel
theorem dX2_changeSetting_5 : decode cX2_changeSetting 5 = .ok (.iconst 1, 1) := by decide +kernel
theorem dX2_changeSetting_6 : decode cX2_changeSetting 6 = .ok (.bipush 9, 2) := by decide +kernel
theorem dX2_changeSetting_8 : decode cX2_changeSetting 8 = .ok (.invokestatic 57, 3) := by decide +kernel
theorem dX2_changeSetting_11 : decode cX2_changeSetting 11 = .ok (.ifCond .ne 18, 3) := by decide +kernel
theorem dX2_changeSetting_14 : decode cX2_changeSetting 14 = .ok (.iload_n 1, 1) := by decide +kernel
theorem dX2_changeSetting_15 : decode cX2_changeSetting 15 = .ok (.iconst 1, 1) := by decide +kernel
theorem dX2_changeSetting_16 : decode cX2_changeSetting 16 = .ok (.if_icmp .ne 17, 3) := by decide +kernel
theorem dX2_changeSetting_19 : decode cX2_changeSetting 19 = .ok (.iload_n 2, 1) := by decide +kernel
theorem dX2_changeSetting_20 : decode cX2_changeSetting 20 = .ok (.iconst 0, 1) := by decide +kernel
theorem dX2_changeSetting_21 : decode cX2_changeSetting 21 = .ok (.bipush 60, 2) := by decide +kernel
theorem dX2_changeSetting_23 : decode cX2_changeSetting 23 = .ok (.invokestatic 57, 3) := by decide +kernel
theorem dX2_changeSetting_26 : decode cX2_changeSetting 26 = .ok (.ifCond .eq 7, 3) := by decide +kernel
theorem dX2_changeSetting_29 : decode cX2_changeSetting 29 = .ok (.iconst 1, 1) := by decide +kernel
theorem dX2_changeSetting_30 : decode cX2_changeSetting 30 = .ok (.goto 4, 3) := by decide +kernel
theorem dX2_changeSetting_33 : decode cX2_changeSetting 33 = .ok (.iconst 0, 1) := by decide +kernel
theorem dX2_changeSetting_34 : decode cX2_changeSetting 34 = .ok (.istore_n 3, 1) := by decide +kernel
theorem dX2_changeSetting_35 : decode cX2_changeSetting 35 = .ok (.iload_n 3, 1) := by decide +kernel
theorem dX2_changeSetting_36 : decode cX2_changeSetting 36 = .ok (.ifCond .ne 6, 3) := by decide +kernel
theorem dX2_changeSetting_39 : decode cX2_changeSetting 39 = .ok (.bipush (-2), 2) := by decide +kernel
theorem dX2_changeSetting_41 : decode cX2_changeSetting 41 = .ok (.ireturn, 1) := by decide +kernel
theorem dX2_changeSetting_42 : decode cX2_changeSetting 42 = .ok (.aload_n 0, 1) := by decide +kernel
theorem dX2_changeSetting_43 : decode cX2_changeSetting 43 = .ok (.getfield 9, 3) := by decide +kernel
theorem dX2_changeSetting_46 : decode cX2_changeSetting 46 = .ok (.iload_n 1, 1) := by decide +kernel
theorem dX2_changeSetting_47 : decode cX2_changeSetting 47 = .ok (.invokestatic 61, 3) := by decide +kernel
theorem dX2_changeSetting_50 : decode cX2_changeSetting 50 = .ok (.istore 4, 2) := by decide +kernel
theorem dX2_changeSetting_52 : decode cX2_changeSetting 52 = .ok (.aload_n 0, 1) := by decide +kernel
theorem dX2_changeSetting_53 : decode cX2_changeSetting 53 = .ok (.getfield 9, 3) := by decide +kernel
theorem dX2_changeSetting_56 : decode cX2_changeSetting 56 = .ok (.iload_n 1, 1) := by decide +kernel
theorem dX2_changeSetting_57 : decode cX2_changeSetting 57 = .ok (.iload_n 2, 1) := by decide +kernel
theorem dX2_changeSetting_58 : decode cX2_changeSetting 58 = .ok (.invokestatic 15, 3) := by decide +kernel
theorem dX2_changeSetting_61 : decode cX2_changeSetting 61 = .ok (.iload 4, 2) := by decide +kernel
theorem dX2_changeSetting_63 : decode cX2_changeSetting 63 = .ok (.ireturn, 1) := by decide +kernel
set_option maxRecDepth 20000 in
theorem ggX2_addDrops_X4_isWithin : GoodIn wsX2_addDrops wsX4_isWithin := goodIn_r _ [5] (by decide +kernel) (by decide +kernel)
set_option maxRecDepth 20000 in
theorem gX2_addDrops_X4_isWithin_n65 : GoodIn wsX2_addDrops (wsX4_isWithin) := ggX2_addDrops_X4_isWithin
set_option maxRecDepth 20000 in
theorem ggX2_addDrops_X4_isBetween : GoodIn wsX2_addDrops wsX4_isBetween := goodIn_r _ [7] (by decide +kernel) (by decide +kernel)
set_option maxRecDepth 20000 in
theorem gX2_addDrops_X4_isBetween_n57 : GoodIn wsX2_addDrops (wsX4_isBetween) := ggX2_addDrops_X4_isBetween
set_option maxRecDepth 20000 in
theorem ggX2_addDrops_X2_allDrops : GoodIn wsX2_addDrops wsX2_allDrops := goodIn_r _ [12, 1, 21, 22, 23, 24, 25, 26, 27, 28, 29, 30, 31, 32] (by decide +kernel) (by decide +kernel)
set_option maxRecDepth 20000 in
theorem gX2_addDrops_X2_allDrops : GoodIn wsX2_addDrops (wsV RX2 69 RX2 yX2_allDrops wsX2_allDrops) := goodIn_app (goodIn_of _ (by decide +kernel)) ggX2_addDrops_X2_allDrops
set_option maxRecDepth 20000 in
theorem ggX2_addDrops_X4_add : GoodIn wsX2_addDrops wsX4_add := goodIn_r _ [14, 15, 16, 4, 17, 18, 19, 20] (by decide +kernel) (by decide +kernel)
set_option maxRecDepth 20000 in
theorem gX2_addDrops_X4_add_n73 : GoodIn wsX2_addDrops (wsX4_add) := ggX2_addDrops_X4_add
theorem dX2_addDrops_0 : decode cX2_addDrops 0 = .ok (.iload_n 1, 1) := by decide +kernel
theorem dX2_addDrops_1 : decode cX2_addDrops 1 = .ok (.bipush 8, 2) := by decide +kernel
theorem dX2_addDrops_3 : decode cX2_addDrops 3 = .ok (.invokestatic 65, 3) := by decide +kernel
theorem dX2_addDrops_6 : decode cX2_addDrops 6 = .ok (.ifCond .eq 11, 3) := by decide +kernel
theorem dX2_addDrops_9 : decode cX2_addDrops 9 = .ok (.iload_n 2, 1) := by decide +kernel
theorem dX2_addDrops_10 : decode cX2_addDrops 10 = .ok (.iconst 4, 1) := by decide +kernel
theorem dX2_addDrops_11 : decode cX2_addDrops 11 = .ok (.invokestatic 65, 3) := by decide +kernel
theorem dX2_addDrops_14 : decode cX2_addDrops 14 = .ok (.ifCond .ne 5, 3) := by decide +kernel
theorem dX2_addDrops_17 : decode cX2_addDrops 17 = .ok (.iconst (-1), 1) := by decide +kernel
theorem dX2_addDrops_18 : decode cX2_addDrops 18 = .ok (.ireturn, 1) := by decide +kernel
theorem dX2_addDrops_19 : decode cX2_addDrops 19 = .ok (.iload_n 3, 1) := by decide +kernel
theorem dX2_addDrops_20 : decode cX2_addDrops 20 = .ok (.iconst 1, 1) := by decide +kernel
theorem dX2_addDrops_21 : decode cX2_addDrops 21 = .ok (.bipush 81, 2) := by decide +kernel
theorem dX2_addDrops_23 : decode cX2_addDrops 23 = .ok (.invokestatic 57, 3) := by decide +kernel
theorem dX2_addDrops_26 : decode cX2_addDrops 26 = .ok (.ifCond .ne 6, 3) := by decide +kernel
theorem dX2_addDrops_29 : decode cX2_addDrops 29 = .ok (.bipush (-2), 2) := by decide +kernel
theorem dX2_addDrops_31 : decode cX2_addDrops 31 = .ok (.ireturn, 1) := by decide +kernel
theorem dX2_addDrops_32 : decode cX2_addDrops 32 = .ok (.aload_n 0, 1) := by decide +kernel
theorem dX2_addDrops_33 : decode cX2_addDrops 33 = .ok (.iload_n 1, 1) := by decide +kernel
theorem dX2_addDrops_34 : decode cX2_addDrops 34 = .ok (.invokevirtual 69, 3) := by decide +kernel
theorem dX2_addDrops_37 : decode cX2_addDrops 37 = .ok (.iload_n 3, 1) := by decide +kernel
theorem dX2_addDrops_38 : decode cX2_addDrops 38 = .ok (.iadd, 1) := by decide +kernel
theorem dX2_addDrops_39 : decode cX2_addDrops 39 = .ok (.istore 4, 2) := by decide +kernel
theorem dX2_addDrops_41 : decode cX2_addDrops 41 = .ok (.iload 4, 2) := by decide +kernel
theorem dX2_addDrops_43 : decode cX2_addDrops 43 = .ok (.bipush 81, 2) := by decide +kernel
theorem dX2_addDrops_45 : decode cX2_addDrops 45 = .ok (.if_icmp .le 6, 3) := by decide +kernel
theorem dX2_addDrops_48 : decode cX2_addDrops 48 = .ok (.bipush (-4), 2) := by decide +kernel
theorem dX2_addDrops_50 : decode cX2_addDrops 50 = .ok (.ireturn, 1) := by decide +kernel
theorem dX2_addDrops_51 : decode cX2_addDrops 51 = .ok (.aload_n 0, 1) := by decide +kernel
theorem dX2_addDrops_52 : decode cX2_addDrops 52 = .ok (.getfield 19, 3) := by decide +kernel
theorem dX2_addDrops_55 : decode cX2_addDrops 55 = .ok (.iload_n 1, 1) := by decide +kernel
theorem dX2_addDrops_56 : decode cX2_addDrops 56 = .ok (.iconst 4, 1) := by decide +kernel
theorem dX2_addDrops_57 : decode cX2_addDrops 57 = .ok (.imul, 1) := by decide +kernel
theorem dX2_addDrops_58 : decode cX2_addDrops 58 = .ok (.iload_n 2, 1) := by decide +kernel
theorem dX2_addDrops_59 : decode cX2_addDrops 59 = .ok (.iadd, 1) := by decide +kernel
theorem dX2_addDrops_60 : decode cX2_addDrops 60 = .ok (.iload_n 3, 1) := by decide +kernel
theorem dX2_addDrops_61 : decode cX2_addDrops 61 = .ok (.invokestatic 73, 3) := by decide +kernel
theorem dX2_addDrops_64 : decode cX2_addDrops 64 = .ok (.aload_n 0, 1) := by decide +kernel
theorem dX2_addDrops_65 : decode cX2_addDrops 65 = .ok (.dup, 1) := by decide +kernel
theorem dX2_addDrops_66 : decode cX2_addDrops 66 = .ok (.getfield 34, 3) := by decide +kernel
theorem dX2_addDrops_69 : decode cX2_addDrops 69 = .ok (.iload_n 3, 1) := by decide +kernel
theorem dX2_addDrops_70 : decode cX2_addDrops 70 = .ok (.iadd, 1) := by decide +kernel
theorem dX2_addDrops_71 : decode cX2_addDrops 71 = .ok (.putfield 34, 3) := by decide +kernel
theorem dX2_addDrops_74 : decode cX2_addDrops 74 = .ok (.iload 4, 2) := by decide +kernel
theorem dX2_addDrops_76 : decode cX2_addDrops 76 = .ok (.ireturn, 1) := by decide +kernel
set_option maxRecDepth 20000 in
theorem ggX2_thinPot_X4_isWithin : GoodIn wsX2_thinPot wsX4_isWithin := goodIn_r _ [6] (by decide +kernel) (by decide +kernel)
set_option maxRecDepth 20000 in
theorem gX2_thinPot_X4_isWithin_n65 : GoodIn wsX2_thinPot (wsX4_isWithin) := ggX2_thinPot_X4_isWithin
set_option maxRecDepth 20000 in
theorem ggX2_thinPot_X2_allDrops : GoodIn wsX2_thinPot wsX2_allDrops := goodIn_r _ [11, 1, 20, 21, 22, 23, 24, 25, 26, 27, 28, 29, 30, 31] (by decide +kernel) (by decide +kernel)
set_option maxRecDepth 20000 in
theorem gX2_thinPot_X2_allDrops : GoodIn wsX2_thinPot (wsV RX2 69 RX2 yX2_allDrops wsX2_allDrops) := goodIn_app (goodIn_of _ (by decide +kernel)) ggX2_thinPot_X2_allDrops
set_option maxRecDepth 20000 in
theorem ggX2_thinPot_X4_add : GoodIn wsX2_thinPot wsX4_add := goodIn_r _ [13, 14, 15, 5, 16, 17, 18, 19] (by decide +kernel) (by decide +kernel)
set_option maxRecDepth 20000 in
theorem gX2_thinPot_X4_add_n73 : GoodIn wsX2_thinPot (wsX4_add) := ggX2_thinPot_X4_add
theorem dX2_thinPot_0 : decode cX2_thinPot 0 = .ok (.iload_n 1, 1) := by decide +kernel
theorem dX2_thinPot_1 : decode cX2_thinPot 1 = .ok (.bipush 8, 2) := by decide +kernel
theorem dX2_thinPot_3 : decode cX2_thinPot 3 = .ok (.invokestatic 65, 3) := by decide +kernel
theorem dX2_thinPot_6 : decode cX2_thinPot 6 = .ok (.ifCond .ne 5, 3) := by decide +kernel
theorem dX2_thinPot_9 : decode cX2_thinPot 9 = .ok (.iconst (-1), 1) := by decide +kernel
theorem dX2_thinPot_10 : decode cX2_thinPot 10 = .ok (.ireturn, 1) := by decide +kernel
theorem dX2_thinPot_11 : decode cX2_thinPot 11 = .ok (.aload_n 0, 1) := by decide +kernel
theorem dX2_thinPot_12 : decode cX2_thinPot 12 = .ok (.iload_n 1, 1) := by decide +kernel
theorem dX2_thinPot_13 : decode cX2_thinPot 13 = .ok (.invokevirtual 69, 3) := by decide +kernel
theorem dX2_thinPot_16 : decode cX2_thinPot 16 = .ok (.istore_n 2, 1) := by decide +kernel
theorem dX2_thinPot_17 : decode cX2_thinPot 17 = .ok (.iload_n 2, 1) := by decide +kernel
theorem dX2_thinPot_18 : decode cX2_thinPot 18 = .ok (.ifCond .ne 6, 3) := by decide +kernel
theorem dX2_thinPot_21 : decode cX2_thinPot 21 = .ok (.bipush (-5), 2) := by decide +kernel
theorem dX2_thinPot_23 : decode cX2_thinPot 23 = .ok (.ireturn, 1) := by decide +kernel
theorem dX2_thinPot_24 : decode cX2_thinPot 24 = .ok (.iload_n 2, 1) := by decide +kernel
theorem dX2_thinPot_25 : decode cX2_thinPot 25 = .ok (.iconst 3, 1) := by decide +kernel
theorem dX2_thinPot_26 : decode cX2_thinPot 26 = .ok (.imul, 1) := by decide +kernel
theorem dX2_thinPot_27 : decode cX2_thinPot 27 = .ok (.istore_n 3, 1) := by decide +kernel
theorem dX2_thinPot_28 : decode cX2_thinPot 28 = .ok (.iload_n 3, 1) := by decide +kernel
theorem dX2_thinPot_29 : decode cX2_thinPot 29 = .ok (.bipush 81, 2) := by decide +kernel
theorem dX2_thinPot_31 : decode cX2_thinPot 31 = .ok (.if_icmp .le 6, 3) := by decide +kernel
theorem dX2_thinPot_34 : decode cX2_thinPot 34 = .ok (.bipush (-4), 2) := by decide +kernel
theorem dX2_thinPot_36 : decode cX2_thinPot 36 = .ok (.ireturn, 1) := by decide +kernel
theorem dX2_thinPot_37 : decode cX2_thinPot 37 = .ok (.aload_n 0, 1) := by decide +kernel
theorem dX2_thinPot_38 : decode cX2_thinPot 38 = .ok (.getfield 19, 3) := by decide +kernel
theorem dX2_thinPot_41 : decode cX2_thinPot 41 = .ok (.iload_n 1, 1) := by decide +kernel
theorem dX2_thinPot_42 : decode cX2_thinPot 42 = .ok (.iconst 4, 1) := by decide +kernel
theorem dX2_thinPot_43 : decode cX2_thinPot 43 = .ok (.imul, 1) := by decide +kernel
theorem dX2_thinPot_44 : decode cX2_thinPot 44 = .ok (.iconst 3, 1) := by decide +kernel
theorem dX2_thinPot_45 : decode cX2_thinPot 45 = .ok (.iadd, 1) := by decide +kernel
theorem dX2_thinPot_46 : decode cX2_thinPot 46 = .ok (.iload_n 3, 1) := by decide +kernel
theorem dX2_thinPot_47 : decode cX2_thinPot 47 = .ok (.iload_n 2, 1) := by decide +kernel
theorem dX2_thinPot_48 : decode cX2_thinPot 48 = .ok (.isub, 1) := by decide +kernel
theorem dX2_thinPot_49 : decode cX2_thinPot 49 = .ok (.invokestatic 73, 3) := by decide +kernel
theorem dX2_thinPot_52 : decode cX2_thinPot 52 = .ok (.aload_n 0, 1) := by decide +kernel
theorem dX2_thinPot_53 : decode cX2_thinPot 53 = .ok (.getfield 22, 3) := by decide +kernel
theorem dX2_thinPot_56 : decode cX2_thinPot 56 = .ok (.iload_n 1, 1) := by decide +kernel
theorem dX2_thinPot_57 : decode cX2_thinPot 57 = .ok (.iconst 1, 1) := by decide +kernel
theorem dX2_thinPot_58 : decode cX2_thinPot 58 = .ok (.invokestatic 73, 3) := by decide +kernel
theorem dX2_thinPot_61 : decode cX2_thinPot 61 = .ok (.aload_n 0, 1) := by decide +kernel
theorem dX2_thinPot_62 : decode cX2_thinPot 62 = .ok (.dup, 1) := by decide +kernel
theorem dX2_thinPot_63 : decode cX2_thinPot 63 = .ok (.getfield 34, 3) := by decide +kernel
theorem dX2_thinPot_66 : decode cX2_thinPot 66 = .ok (.iload_n 3, 1) := by decide +kernel
theorem dX2_thinPot_67 : decode cX2_thinPot 67 = .ok (.iload_n 2, 1) := by decide +kernel
theorem dX2_thinPot_68 : decode cX2_thinPot 68 = .ok (.isub, 1) := by decide +kernel
theorem dX2_thinPot_69 : decode cX2_thinPot 69 = .ok (.iadd, 1) := by decide +kernel
theorem dX2_thinPot_70 : decode cX2_thinPot 70 = .ok (.putfield 34, 3) := by decide +kernel
theorem dX2_thinPot_73 : decode cX2_thinPot 73 = .ok (.iload_n 3, 1) := by decide +kernel
theorem dX2_thinPot_74 : decode cX2_thinPot 74 = .ok (.ireturn, 1) := by decide +kernel
set_option maxRecDepth 20000 in
theorem ggX2_pourOver_X4_isWithin : GoodIn wsX2_pourOver wsX4_isWithin := goodIn_r _ [3] (by decide +kernel) (by decide +kernel)
set_option maxRecDepth 20000 in
theorem gX2_pourOver_X4_isWithin_n65 : GoodIn wsX2_pourOver (wsX4_isWithin) := ggX2_pourOver_X4_isWithin
set_option maxRecDepth 20000 in
theorem ggX2_pourOver_X4_isBetween : GoodIn wsX2_pourOver wsX4_isBetween := goodIn_r _ [5] (by decide +kernel) (by decide +kernel)
set_option maxRecDepth 20000 in
theorem gX2_pourOver_X4_isBetween_n57 : GoodIn wsX2_pourOver (wsX4_isBetween) := ggX2_pourOver_X4_isBetween
set_option maxRecDepth 20000 in
theorem ggX2_pourOver_X2_move : GoodIn wsX2_pourOver wsX2_move := goodIn_r _ [10, 11, 12, 13, 14, 15, 9, 16, 17, 18, 19, 20, 21, 22, 2, 23, 24, 25, 26, 27, 28, 29, 30, 31, 32, 33, 34, 35, 36, 37, 38, 39, 40, 41, 42, 43, 44, 45, 46, 47, 48, 49] (by decide +kernel) (by decide +kernel)
set_option maxRecDepth 20000 in
theorem gX2_pourOver_X2_move : GoodIn wsX2_pourOver (wsV RX2 76 RX2 yX2_move wsX2_move) := goodIn_app (goodIn_of _ (by decide +kernel)) ggX2_pourOver_X2_move
theorem dX2_pourOver_0 : decode cX2_pourOver 0 = .ok (.iload_n 1, 1) := by decide +kernel
theorem dX2_pourOver_1 : decode cX2_pourOver 1 = .ok (.bipush 8, 2) := by decide +kernel
theorem dX2_pourOver_3 : decode cX2_pourOver 3 = .ok (.invokestatic 65, 3) := by decide +kernel
theorem dX2_pourOver_6 : decode cX2_pourOver 6 = .ok (.ifCond .eq 12, 3) := by decide +kernel
theorem dX2_pourOver_9 : decode cX2_pourOver 9 = .ok (.iload_n 2, 1) := by decide +kernel
theorem dX2_pourOver_10 : decode cX2_pourOver 10 = .ok (.bipush 8, 2) := by decide +kernel
theorem dX2_pourOver_12 : decode cX2_pourOver 12 = .ok (.invokestatic 65, 3) := by decide +kernel
theorem dX2_pourOver_15 : decode cX2_pourOver 15 = .ok (.ifCond .ne 5, 3) := by decide +kernel
theorem dX2_pourOver_18 : decode cX2_pourOver 18 = .ok (.iconst (-1), 1) := by decide +kernel
theorem dX2_pourOver_19 : decode cX2_pourOver 19 = .ok (.ireturn, 1) := by decide +kernel
theorem dX2_pourOver_20 : decode cX2_pourOver 20 = .ok (.iload_n 1, 1) := by decide +kernel
theorem dX2_pourOver_21 : decode cX2_pourOver 21 = .ok (.iload_n 2, 1) := by decide +kernel
theorem dX2_pourOver_22 : decode cX2_pourOver 22 = .ok (.if_icmp .eq 13, 3) := by decide +kernel
theorem dX2_pourOver_25 : decode cX2_pourOver 25 = .ok (.iload_n 3, 1) := by decide +kernel
theorem dX2_pourOver_26 : decode cX2_pourOver 26 = .ok (.iconst 1, 1) := by decide +kernel
theorem dX2_pourOver_27 : decode cX2_pourOver 27 = .ok (.bipush 81, 2) := by decide +kernel
theorem dX2_pourOver_29 : decode cX2_pourOver 29 = .ok (.invokestatic 57, 3) := by decide +kernel
theorem dX2_pourOver_32 : decode cX2_pourOver 32 = .ok (.ifCond .ne 6, 3) := by decide +kernel
theorem dX2_pourOver_35 : decode cX2_pourOver 35 = .ok (.bipush (-2), 2) := by decide +kernel
theorem dX2_pourOver_37 : decode cX2_pourOver 37 = .ok (.ireturn, 1) := by decide +kernel
theorem dX2_pourOver_38 : decode cX2_pourOver 38 = .ok (.aload_n 0, 1) := by decide +kernel
theorem dX2_pourOver_39 : decode cX2_pourOver 39 = .ok (.iload_n 1, 1) := by decide +kernel
theorem dX2_pourOver_40 : decode cX2_pourOver 40 = .ok (.iload_n 2, 1) := by decide +kernel
theorem dX2_pourOver_41 : decode cX2_pourOver 41 = .ok (.iload_n 3, 1) := by decide +kernel
theorem dX2_pourOver_42 : decode cX2_pourOver 42 = .ok (.bipush 81, 2) := by decide +kernel
theorem dX2_pourOver_44 : decode cX2_pourOver 44 = .ok (.invokevirtual 76, 3) := by decide +kernel
theorem dX2_pourOver_47 : decode cX2_pourOver 47 = .ok (.ireturn, 1) := by decide +kernel
set_option maxRecDepth 20000 in
theorem ggX2_emptyPot_X4_isWithin : GoodIn wsX2_emptyPot wsX4_isWithin := goodIn_r _ [3] (by decide +kernel) (by decide +kernel)
set_option maxRecDepth 20000 in
theorem gX2_emptyPot_X4_isWithin_n65 : GoodIn wsX2_emptyPot (wsX4_isWithin) := ggX2_emptyPot_X4_isWithin
set_option maxRecDepth 20000 in
theorem ggX2_emptyPot_X2_sink : GoodIn wsX2_emptyPot wsX2_sink := goodIn_r _ [8, 9, 10, 11, 12, 13, 7, 14, 15, 2, 16, 17, 18, 19, 20, 21, 22, 23, 24, 25, 26, 27, 28] (by decide +kernel) (by decide +kernel)
set_option maxRecDepth 20000 in
theorem gX2_emptyPot_X2_sink : GoodIn wsX2_emptyPot (wsV RX2 80 RX2 yX2_sink wsX2_sink) := goodIn_app (goodIn_of _ (by decide +kernel)) ggX2_emptyPot_X2_sink
theorem dX2_emptyPot_0 : decode cX2_emptyPot 0 = .ok (.iload_n 1, 1) := by decide +kernel
theorem dX2_emptyPot_1 : decode cX2_emptyPot 1 = .ok (.bipush 8, 2) := by decide +kernel
theorem dX2_emptyPot_3 : decode cX2_emptyPot 3 = .ok (.invokestatic 65, 3) := by decide +kernel
theorem dX2_emptyPot_6 : decode cX2_emptyPot 6 = .ok (.ifCond .ne 5, 3) := by decide +kernel
theorem dX2_emptyPot_9 : decode cX2_emptyPot 9 = .ok (.iconst (-1), 1) := by decide +kernel
theorem dX2_emptyPot_10 : decode cX2_emptyPot 10 = .ok (.ireturn, 1) := by decide +kernel
theorem dX2_emptyPot_11 : decode cX2_emptyPot 11 = .ok (.aload_n 0, 1) := by decide +kernel
theorem dX2_emptyPot_12 : decode cX2_emptyPot 12 = .ok (.iload_n 1, 1) := by decide +kernel
theorem dX2_emptyPot_13 : decode cX2_emptyPot 13 = .ok (.invokevirtual 80, 3) := by decide +kernel
theorem dX2_emptyPot_16 : decode cX2_emptyPot 16 = .ok (.ireturn, 1) := by decide +kernel
set_option maxRecDepth 20000 in
theorem ggX2_dipBrush_X4_isWithin : GoodIn wsX2_dipBrush wsX4_isWithin := goodIn_r _ [3] (by decide +kernel) (by decide +kernel)
set_option maxRecDepth 20000 in
theorem gX2_dipBrush_X4_isWithin_n65 : GoodIn wsX2_dipBrush (wsX4_isWithin) := ggX2_dipBrush_X4_isWithin
set_option maxRecDepth 20000 in
theorem ggX2_dipBrush_X4_isBetween : GoodIn wsX2_dipBrush wsX4_isBetween := goodIn_r _ [5] (by decide +kernel) (by decide +kernel)
set_option maxRecDepth 20000 in
theorem gX2_dipBrush_X4_isBetween_n57 : GoodIn wsX2_dipBrush (wsX4_isBetween) := ggX2_dipBrush_X4_isBetween
set_option maxRecDepth 20000 in
theorem ggX2_dipBrush_X2_move : GoodIn wsX2_dipBrush wsX2_move := goodIn_r _ [10, 11, 12, 13, 14, 15, 9, 16, 17, 18, 19, 20, 21, 22, 2, 23, 24, 25, 26, 27, 28, 29, 30, 31, 32, 33, 34, 35, 36, 37, 38, 39, 40, 41, 42, 43, 44, 45, 46, 47, 48, 49] (by decide +kernel) (by decide +kernel)
set_option maxRecDepth 20000 in
theorem gX2_dipBrush_X2_move : GoodIn wsX2_dipBrush (wsV RX2 76 RX2 yX2_move wsX2_move) := goodIn_app (goodIn_of _ (by decide +kernel)) ggX2_dipBrush_X2_move
theorem dX2_dipBrush_0 : decode cX2_dipBrush 0 = .ok (.iload_n 1, 1) := by decide +kernel
theorem dX2_dipBrush_1 : decode cX2_dipBrush 1 = .ok (.bipush 8, 2) := by decide +kernel
theorem dX2_dipBrush_3 : decode cX2_dipBrush 3 = .ok (.invokestatic 65, 3) := by decide +kernel
theorem dX2_dipBrush_6 : decode cX2_dipBrush 6 = .ok (.ifCond .ne 5, 3) := by decide +kernel
theorem dX2_dipBrush_9 : decode cX2_dipBrush 9 = .ok (.iconst (-1), 1) := by decide +kernel
theorem dX2_dipBrush_10 : decode cX2_dipBrush 10 = .ok (.ireturn, 1) := by decide +kernel
theorem dX2_dipBrush_11 : decode cX2_dipBrush 11 = .ok (.iload_n 2, 1) := by decide +kernel
theorem dX2_dipBrush_12 : decode cX2_dipBrush 12 = .ok (.iconst 1, 1) := by decide +kernel
theorem dX2_dipBrush_13 : decode cX2_dipBrush 13 = .ok (.bipush 9, 2) := by decide +kernel
theorem dX2_dipBrush_15 : decode cX2_dipBrush 15 = .ok (.invokestatic 57, 3) := by decide +kernel
theorem dX2_dipBrush_18 : decode cX2_dipBrush 18 = .ok (.ifCond .ne 6, 3) := by decide +kernel
theorem dX2_dipBrush_21 : decode cX2_dipBrush 21 = .ok (.bipush (-2), 2) := by decide +kernel
theorem dX2_dipBrush_23 : decode cX2_dipBrush 23 = .ok (.ireturn, 1) := by decide +kernel
theorem dX2_dipBrush_24 : decode cX2_dipBrush 24 = .ok (.aload_n 0, 1) := by decide +kernel
theorem dX2_dipBrush_25 : decode cX2_dipBrush 25 = .ok (.iload_n 1, 1) := by decide +kernel
theorem dX2_dipBrush_26 : decode cX2_dipBrush 26 = .ok (.bipush 8, 2) := by decide +kernel
theorem dX2_dipBrush_28 : decode cX2_dipBrush 28 = .ok (.iload_n 2, 1) := by decide +kernel
theorem dX2_dipBrush_29 : decode cX2_dipBrush 29 = .ok (.bipush 9, 2) := by decide +kernel
theorem dX2_dipBrush_31 : decode cX2_dipBrush 31 = .ok (.invokevirtual 76, 3) := by decide +kernel
theorem dX2_dipBrush_34 : decode cX2_dipBrush 34 = .ok (.ireturn, 1) := by decide +kernel
set_option maxRecDepth 20000 in
theorem ggX2_paintPanel_X4_isWithin : GoodIn wsX2_paintPanel wsX4_isWithin := goodIn_r _ [7] (by decide +kernel) (by decide +kernel)
set_option maxRecDepth 20000 in
theorem gX2_paintPanel_X4_isWithin_n65 : GoodIn wsX2_paintPanel (wsX4_isWithin) := ggX2_paintPanel_X4_isWithin
set_option maxRecDepth 20000 in
theorem ggX2_paintPanel_X4_at : GoodIn wsX2_paintPanel wsX4_at := goodIn_r _ [9] (by decide +kernel) (by decide +kernel)
set_option maxRecDepth 20000 in
theorem gX2_paintPanel_X4_at_n61 : GoodIn wsX2_paintPanel (wsX4_at) := ggX2_paintPanel_X4_at
set_option maxRecDepth 20000 in
theorem ggX2_paintPanel_X2_allDrops : GoodIn wsX2_paintPanel wsX2_allDrops := goodIn_r _ [14, 15, 53, 54, 55, 56, 57, 58, 59, 60, 61, 62, 63, 64] (by decide +kernel) (by decide +kernel)
set_option maxRecDepth 20000 in
theorem gX2_paintPanel_X2_allDrops : GoodIn wsX2_paintPanel (wsV RX2 69 RX2 yX2_allDrops wsX2_allDrops) := goodIn_app (goodIn_of _ (by decide +kernel)) ggX2_paintPanel_X2_allDrops
set_option maxRecDepth 20000 in
theorem ggX2_paintPanel_X2_strength : GoodIn wsX2_paintPanel wsX2_strength := goodIn_r _ [19, 15, 8, 6, 9, 10, 11, 12, 13, 14, 20, 21, 53, 54, 55, 56, 57, 58, 59, 60, 61, 62, 63, 64] (by decide +kernel) (by decide +kernel)
set_option maxRecDepth 20000 in
theorem gX2_paintPanel_X2_strength : GoodIn wsX2_paintPanel (wsV RX2 83 RX2 yX2_strength wsX2_strength) := goodIn_app (goodIn_of _ (by decide +kernel)) ggX2_paintPanel_X2_strength
set_option maxRecDepth 20000 in
theorem ggX2_paintPanel_X4_write : GoodIn wsX2_paintPanel wsX4_write := goodIn_r _ [23] (by decide +kernel) (by decide +kernel)
set_option maxRecDepth 20000 in
theorem gX2_paintPanel_X4_write_n15 : GoodIn wsX2_paintPanel (wsX4_write) := ggX2_paintPanel_X4_write
set_option maxRecDepth 20000 in
theorem ggX2_paintPanel_X2_takeOut : GoodIn wsX2_paintPanel wsX2_takeOut := goodIn_r _ [27, 15, 28, 29, 10, 11, 12, 13, 14, 8, 6, 9, 20, 21, 22, 23, 30, 31, 32, 33, 34, 35, 36, 37, 38, 39, 53, 54, 55, 56, 57, 58, 59, 60, 61, 62, 63, 64] (by decide +kernel) (by decide +kernel)
set_option maxRecDepth 20000 in
theorem gX2_paintPanel_X2_takeOut : GoodIn wsX2_paintPanel (wsV RX2 87 RX2 yX2_takeOut wsX2_takeOut) := goodIn_app (goodIn_of _ (by decide +kernel)) ggX2_paintPanel_X2_takeOut
set_option maxRecDepth 20000 in
theorem ggX2_paintPanel_X4_add : GoodIn wsX2_paintPanel wsX4_add := goodIn_r _ [37, 38, 8, 6, 9, 39, 22, 23] (by decide +kernel) (by decide +kernel)
set_option maxRecDepth 20000 in
theorem gX2_paintPanel_X4_add_n73 : GoodIn wsX2_paintPanel (wsX4_add) := ggX2_paintPanel_X4_add
set_option maxRecDepth 20000 in
theorem ggX2_paintPanel_X2_distanceOfPanel : GoodIn wsX2_paintPanel wsX2_distanceOfPanel := goodIn_r _ [43, 2, 8, 6, 9, 44, 45, 46, 13, 47, 48, 49, 50, 51, 52, 53, 54, 55, 56, 57, 58, 59, 60, 61, 62, 63, 64] (by decide +kernel) (by decide +kernel)
set_option maxRecDepth 20000 in
theorem gX2_paintPanel_X2_distanceOfPanel : GoodIn wsX2_paintPanel (wsV RX2 91 RX2 yX2_distanceOfPanel wsX2_distanceOfPanel) := goodIn_app (goodIn_of _ (by decide +kernel)) ggX2_paintPanel_X2_distanceOfPanel
theorem dX2_paintPanel_0 : decode cX2_paintPanel 0 = .ok (.iload_n 1, 1) := by decide +kernel
theorem dX2_paintPanel_1 : decode cX2_paintPanel 1 = .ok (.bipush 6, 2) := by decide +kernel
theorem dX2_paintPanel_3 : decode cX2_paintPanel 3 = .ok (.invokestatic 65, 3) := by decide +kernel
theorem dX2_paintPanel_6 : decode cX2_paintPanel 6 = .ok (.ifCond .ne 5, 3) := by decide +kernel
theorem dX2_paintPanel_9 : decode cX2_paintPanel 9 = .ok (.iconst (-1), 1) := by decide +kernel
theorem dX2_paintPanel_10 : decode cX2_paintPanel 10 = .ok (.ireturn, 1) := by decide +kernel
theorem dX2_paintPanel_11 : decode cX2_paintPanel 11 = .ok (.aload_n 0, 1) := by decide +kernel
theorem dX2_paintPanel_12 : decode cX2_paintPanel 12 = .ok (.getfield 9, 3) := by decide +kernel
theorem dX2_paintPanel_15 : decode cX2_paintPanel 15 = .ok (.iconst 0, 1) := by decide +kernel
theorem dX2_paintPanel_16 : decode cX2_paintPanel 16 = .ok (.invokestatic 61, 3) := by decide +kernel
theorem dX2_paintPanel_19 : decode cX2_paintPanel 19 = .ok (.istore_n 2, 1) := by decide +kernel
theorem dX2_paintPanel_20 : decode cX2_paintPanel 20 = .ok (.aload_n 0, 1) := by decide +kernel
theorem dX2_paintPanel_21 : decode cX2_paintPanel 21 = .ok (.bipush 8, 2) := by decide +kernel
theorem dX2_paintPanel_23 : decode cX2_paintPanel 23 = .ok (.invokevirtual 69, 3) := by decide +kernel
theorem dX2_paintPanel_26 : decode cX2_paintPanel 26 = .ok (.iload_n 2, 1) := by decide +kernel
theorem dX2_paintPanel_27 : decode cX2_paintPanel 27 = .ok (.if_icmp .ge 6, 3) := by decide +kernel
theorem dX2_paintPanel_30 : decode cX2_paintPanel 30 = .ok (.bipush (-5), 2) := by decide +kernel
theorem dX2_paintPanel_32 : decode cX2_paintPanel 32 = .ok (.ireturn, 1) := by decide +kernel
theorem dX2_paintPanel_33 : decode cX2_paintPanel 33 = .ok (.iconst 0, 1) := by decide +kernel
theorem dX2_paintPanel_34 : decode cX2_paintPanel 34 = .ok (.istore_n 3, 1) := by decide +kernel
theorem dX2_paintPanel_35 : decode cX2_paintPanel 35 = .ok (.iload_n 3, 1) := by decide +kernel
theorem dX2_paintPanel_36 : decode cX2_paintPanel 36 = .ok (.iconst 3, 1) := by decide +kernel
theorem dX2_paintPanel_37 : decode cX2_paintPanel 37 = .ok (.if_icmp .ge 28, 3) := by decide +kernel
theorem dX2_paintPanel_40 : decode cX2_paintPanel 40 = .ok (.aload_n 0, 1) := by decide +kernel
theorem dX2_paintPanel_41 : decode cX2_paintPanel 41 = .ok (.getfield 28, 3) := by decide +kernel
theorem dX2_paintPanel_44 : decode cX2_paintPanel 44 = .ok (.iload_n 1, 1) := by decide +kernel
theorem dX2_paintPanel_45 : decode cX2_paintPanel 45 = .ok (.iconst 3, 1) := by decide +kernel
theorem dX2_paintPanel_46 : decode cX2_paintPanel 46 = .ok (.imul, 1) := by decide +kernel
theorem dX2_paintPanel_47 : decode cX2_paintPanel 47 = .ok (.iload_n 3, 1) := by decide +kernel
theorem dX2_paintPanel_48 : decode cX2_paintPanel 48 = .ok (.iadd, 1) := by decide +kernel
theorem dX2_paintPanel_49 : decode cX2_paintPanel 49 = .ok (.aload_n 0, 1) := by decide +kernel
theorem dX2_paintPanel_50 : decode cX2_paintPanel 50 = .ok (.bipush 8, 2) := by decide +kernel
theorem dX2_paintPanel_52 : decode cX2_paintPanel 52 = .ok (.iload_n 3, 1) := by decide +kernel
theorem dX2_paintPanel_53 : decode cX2_paintPanel 53 = .ok (.invokevirtual 83, 3) := by decide +kernel
theorem dX2_paintPanel_56 : decode cX2_paintPanel 56 = .ok (.invokestatic 15, 3) := by decide +kernel
theorem dX2_paintPanel_59 : decode cX2_paintPanel 59 = .ok (.iinc 3 1, 3) := by decide +kernel
theorem dX2_paintPanel_62 : decode cX2_paintPanel 62 = .ok (.goto (-27), 3) := by decide +kernel
theorem dX2_paintPanel_65 : decode cX2_paintPanel 65 = .ok (.aload_n 0, 1) := by decide +kernel
theorem dX2_paintPanel_66 : decode cX2_paintPanel 66 = .ok (.bipush 8, 2) := by decide +kernel
theorem dX2_paintPanel_68 : decode cX2_paintPanel 68 = .ok (.iload_n 2, 1) := by decide +kernel
theorem dX2_paintPanel_69 : decode cX2_paintPanel 69 = .ok (.invokevirtual 87, 3) := by decide +kernel
theorem dX2_paintPanel_72 : decode cX2_paintPanel 72 = .ok (.aload_n 0, 1) := by decide +kernel
theorem dX2_paintPanel_73 : decode cX2_paintPanel 73 = .ok (.getfield 31, 3) := by decide +kernel
theorem dX2_paintPanel_76 : decode cX2_paintPanel 76 = .ok (.iload_n 1, 1) := by decide +kernel
theorem dX2_paintPanel_77 : decode cX2_paintPanel 77 = .ok (.iconst 1, 1) := by decide +kernel
theorem dX2_paintPanel_78 : decode cX2_paintPanel 78 = .ok (.invokestatic 73, 3) := by decide +kernel
theorem dX2_paintPanel_81 : decode cX2_paintPanel 81 = .ok (.aload_n 0, 1) := by decide +kernel
theorem dX2_paintPanel_82 : decode cX2_paintPanel 82 = .ok (.dup, 1) := by decide +kernel
theorem dX2_paintPanel_83 : decode cX2_paintPanel 83 = .ok (.getfield 38, 3) := by decide +kernel
theorem dX2_paintPanel_86 : decode cX2_paintPanel 86 = .ok (.iload_n 2, 1) := by decide +kernel
theorem dX2_paintPanel_87 : decode cX2_paintPanel 87 = .ok (.iadd, 1) := by decide +kernel
theorem dX2_paintPanel_88 : decode cX2_paintPanel 88 = .ok (.putfield 38, 3) := by decide +kernel
theorem dX2_paintPanel_91 : decode cX2_paintPanel 91 = .ok (.aload_n 0, 1) := by decide +kernel
theorem dX2_paintPanel_92 : decode cX2_paintPanel 92 = .ok (.iload_n 1, 1) := by decide +kernel
theorem dX2_paintPanel_93 : decode cX2_paintPanel 93 = .ok (.invokevirtual 91, 3) := by decide +kernel
theorem dX2_paintPanel_96 : decode cX2_paintPanel 96 = .ok (.ireturn, 1) := by decide +kernel
set_option maxRecDepth 20000 in
theorem ggX2_rinseBrush_X2_sink : GoodIn wsX2_rinseBrush wsX2_sink := goodIn_r _ [6, 7, 8, 9, 10, 11, 5, 12, 13, 14, 15, 16, 17, 18, 19, 20, 21, 22, 23, 24, 25, 26, 27] (by decide +kernel) (by decide +kernel)
set_option maxRecDepth 20000 in
theorem gX2_rinseBrush_X2_sink : GoodIn wsX2_rinseBrush (wsV RX2 80 RX2 yX2_sink wsX2_sink) := goodIn_app (goodIn_of _ (by decide +kernel)) ggX2_rinseBrush_X2_sink
theorem dX2_rinseBrush_0 : decode cX2_rinseBrush 0 = .ok (.aload_n 0, 1) := by decide +kernel
theorem dX2_rinseBrush_1 : decode cX2_rinseBrush 1 = .ok (.bipush 8, 2) := by decide +kernel
theorem dX2_rinseBrush_3 : decode cX2_rinseBrush 3 = .ok (.invokevirtual 80, 3) := by decide +kernel
theorem dX2_rinseBrush_6 : decode cX2_rinseBrush 6 = .ok (.istore_n 1, 1) := by decide +kernel
theorem dX2_rinseBrush_7 : decode cX2_rinseBrush 7 = .ok (.iload_n 1, 1) := by decide +kernel
theorem dX2_rinseBrush_8 : decode cX2_rinseBrush 8 = .ok (.ifCond .le 13, 3) := by decide +kernel
theorem dX2_rinseBrush_11 : decode cX2_rinseBrush 11 = .ok (.aload_n 0, 1) := by decide +kernel
theorem dX2_rinseBrush_12 : decode cX2_rinseBrush 12 = .ok (.dup, 1) := by decide +kernel
theorem dX2_rinseBrush_13 : decode cX2_rinseBrush 13 = .ok (.getfield 44, 3) := by decide +kernel
theorem dX2_rinseBrush_16 : decode cX2_rinseBrush 16 = .ok (.iconst 1, 1) := by decide +kernel
theorem dX2_rinseBrush_17 : decode cX2_rinseBrush 17 = .ok (.iadd, 1) := by decide +kernel
theorem dX2_rinseBrush_18 : decode cX2_rinseBrush 18 = .ok (.putfield 44, 3) := by decide +kernel
theorem dX2_rinseBrush_21 : decode cX2_rinseBrush 21 = .ok (.iload_n 1, 1) := by decide +kernel
theorem dX2_rinseBrush_22 : decode cX2_rinseBrush 22 = .ok (.ireturn, 1) := by decide +kernel
set_option maxRecDepth 20000 in
theorem ggX2_wantShade_X4_isWithin : GoodIn wsX2_wantShade wsX4_isWithin := goodIn_r _ [4] (by decide +kernel) (by decide +kernel)
set_option maxRecDepth 20000 in
theorem gX2_wantShade_X4_isWithin_n65 : GoodIn wsX2_wantShade (wsX4_isWithin) := ggX2_wantShade_X4_isWithin
set_option maxRecDepth 20000 in
theorem ggX2_wantShade_X2_isStrength : GoodIn wsX2_wantShade wsX2_isStrength := goodIn_r _ [8, 9, 3, 10] (by decide +kernel) (by decide +kernel)
set_option maxRecDepth 20000 in
theorem gX2_wantShade_X2_isStrength : GoodIn wsX2_wantShade (va_wsS RX2 94 yX2_isStrength wsX2_isStrength) := goodIn_app (goodIn_of _ (by decide +kernel)) ggX2_wantShade_X2_isStrength
set_option maxRecDepth 20000 in
theorem ggX2_wantShade_X4_write : GoodIn wsX2_wantShade wsX4_write := goodIn_r _ [12] (by decide +kernel) (by decide +kernel)
set_option maxRecDepth 20000 in
theorem gX2_wantShade_X4_write_n15 : GoodIn wsX2_wantShade (wsX4_write) := ggX2_wantShade_X4_write
set_option maxRecDepth 20000 in
theorem ggX2_wantShade_X2_panelsWell : GoodIn wsX2_wantShade wsX2_panelsWell := goodIn_r _ [16, 17, 18, 19, 7, 20, 21, 22, 23, 24, 25, 26, 27, 3, 28, 29, 30, 31, 32, 33, 34, 35, 36, 37, 1, 38, 39, 40, 41, 42, 43, 44, 45, 46, 47, 48, 49, 50, 51, 52, 53] (by decide +kernel) (by decide +kernel)
set_option maxRecDepth 20000 in
theorem gX2_wantShade_X2_panelsWell : GoodIn wsX2_wantShade (wsV RX2 98 RX2 yX2_panelsWell wsX2_panelsWell) := goodIn_app (goodIn_of _ (by decide +kernel)) ggX2_wantShade_X2_panelsWell
theorem dX2_wantShade_0 : decode cX2_wantShade 0 = .ok (.iload_n 1, 1) := by decide +kernel
theorem dX2_wantShade_1 : decode cX2_wantShade 1 = .ok (.bipush 6, 2) := by decide +kernel
theorem dX2_wantShade_3 : decode cX2_wantShade 3 = .ok (.invokestatic 65, 3) := by decide +kernel
theorem dX2_wantShade_6 : decode cX2_wantShade 6 = .ok (.ifCond .ne 5, 3) := by decide +kernel
theorem dX2_wantShade_9 : decode cX2_wantShade 9 = .ok (.iconst (-1), 1) := by decide +kernel
theorem dX2_wantShade_10 : decode cX2_wantShade 10 = .ok (.ireturn, 1) := by decide +kernel
theorem dX2_wantShade_11 : decode cX2_wantShade 11 = .ok (.iload_n 2, 1) := by decide +kernel
theorem dX2_wantShade_12 : decode cX2_wantShade 12 = .ok (.invokestatic 94, 3) := by decide +kernel
theorem dX2_wantShade_15 : decode cX2_wantShade 15 = .ok (.ifCond .eq 18, 3) := by decide +kernel
theorem dX2_wantShade_18 : decode cX2_wantShade 18 = .ok (.iload_n 3, 1) := by decide +kernel
theorem dX2_wantShade_19 : decode cX2_wantShade 19 = .ok (.invokestatic 94, 3) := by decide +kernel
theorem dX2_wantShade_22 : decode cX2_wantShade 22 = .ok (.ifCond .eq 11, 3) := by decide +kernel
theorem dX2_wantShade_25 : decode cX2_wantShade 25 = .ok (.iload 4, 2) := by decide +kernel
theorem dX2_wantShade_27 : decode cX2_wantShade 27 = .ok (.invokestatic 94, 3) := by decide +kernel
theorem dX2_wantShade_30 : decode cX2_wantShade 30 = .ok (.ifCond .ne 6, 3) := by decide +kernel
theorem dX2_wantShade_33 : decode cX2_wantShade 33 = .ok (.bipush (-2), 2) := by decide +kernel
theorem dX2_wantShade_35 : decode cX2_wantShade 35 = .ok (.ireturn, 1) := by decide +kernel
theorem dX2_wantShade_36 : decode cX2_wantShade 36 = .ok (.aload_n 0, 1) := by decide +kernel
theorem dX2_wantShade_37 : decode cX2_wantShade 37 = .ok (.getfield 25, 3) := by decide +kernel
theorem dX2_wantShade_40 : decode cX2_wantShade 40 = .ok (.iload_n 1, 1) := by decide +kernel
theorem dX2_wantShade_41 : decode cX2_wantShade 41 = .ok (.iconst 3, 1) := by decide +kernel
theorem dX2_wantShade_42 : decode cX2_wantShade 42 = .ok (.imul, 1) := by decide +kernel
theorem dX2_wantShade_43 : decode cX2_wantShade 43 = .ok (.iload_n 2, 1) := by decide +kernel
theorem dX2_wantShade_44 : decode cX2_wantShade 44 = .ok (.invokestatic 15, 3) := by decide +kernel
theorem dX2_wantShade_47 : decode cX2_wantShade 47 = .ok (.aload_n 0, 1) := by decide +kernel
theorem dX2_wantShade_48 : decode cX2_wantShade 48 = .ok (.getfield 25, 3) := by decide +kernel
theorem dX2_wantShade_51 : decode cX2_wantShade 51 = .ok (.iload_n 1, 1) := by decide +kernel
theorem dX2_wantShade_52 : decode cX2_wantShade 52 = .ok (.iconst 3, 1) := by decide +kernel
theorem dX2_wantShade_53 : decode cX2_wantShade 53 = .ok (.imul, 1) := by decide +kernel
theorem dX2_wantShade_54 : decode cX2_wantShade 54 = .ok (.iconst 1, 1) := by decide +kernel
theorem dX2_wantShade_55 : decode cX2_wantShade 55 = .ok (.iadd, 1) := by decide +kernel
theorem dX2_wantShade_56 : decode cX2_wantShade 56 = .ok (.iload_n 3, 1) := by decide +kernel
theorem dX2_wantShade_57 : decode cX2_wantShade 57 = .ok (.invokestatic 15, 3) := by decide +kernel
theorem dX2_wantShade_60 : decode cX2_wantShade 60 = .ok (.aload_n 0, 1) := by decide +kernel
theorem dX2_wantShade_61 : decode cX2_wantShade 61 = .ok (.getfield 25, 3) := by decide +kernel
theorem dX2_wantShade_64 : decode cX2_wantShade 64 = .ok (.iload_n 1, 1) := by decide +kernel
theorem dX2_wantShade_65 : decode cX2_wantShade 65 = .ok (.iconst 3, 1) := by decide +kernel
theorem dX2_wantShade_66 : decode cX2_wantShade 66 = .ok (.imul, 1) := by decide +kernel
theorem dX2_wantShade_67 : decode cX2_wantShade 67 = .ok (.iconst 2, 1) := by decide +kernel
theorem dX2_wantShade_68 : decode cX2_wantShade 68 = .ok (.iadd, 1) := by decide +kernel
theorem dX2_wantShade_69 : decode cX2_wantShade 69 = .ok (.iload 4, 2) := by decide +kernel
theorem dX2_wantShade_71 : decode cX2_wantShade 71 = .ok (.invokestatic 15, 3) := by decide +kernel
theorem dX2_wantShade_74 : decode cX2_wantShade 74 = .ok (.aload_n 0, 1) := by decide +kernel
theorem dX2_wantShade_75 : decode cX2_wantShade 75 = .ok (.invokevirtual 98, 3) := by decide +kernel
theorem dX2_wantShade_78 : decode cX2_wantShade 78 = .ok (.ireturn, 1) := by decide +kernel
set_option maxRecDepth 20000 in
theorem ggX2_aboutPaint_X4_isBetween : GoodIn wsX2_aboutPaint wsX4_isBetween := goodIn_r _ [3] (by decide +kernel) (by decide +kernel)
set_option maxRecDepth 20000 in
theorem gX2_aboutPaint_X4_isBetween_n57 : GoodIn wsX2_aboutPaint (wsX4_isBetween) := ggX2_aboutPaint_X4_isBetween
set_option maxRecDepth 20000 in
theorem ggX2_aboutPaint_X2_dropsOf : GoodIn wsX2_aboutPaint wsX2_dropsOf := goodIn_r _ [8, 9, 10, 2, 11, 26, 27, 28, 29, 30, 31, 32, 33, 34, 35, 36, 37] (by decide +kernel) (by decide +kernel)
set_option maxRecDepth 20000 in
theorem gX2_aboutPaint_X2_dropsOf : GoodIn wsX2_aboutPaint (wsV RX2 102 RX2 yX2_dropsOf wsX2_dropsOf) := goodIn_app (goodIn_of _ (by decide +kernel)) ggX2_aboutPaint_X2_dropsOf
set_option maxRecDepth 20000 in
theorem ggX2_aboutPaint_X2_allDrops : GoodIn wsX2_aboutPaint wsX2_allDrops := goodIn_r _ [15, 9, 26, 27, 28, 29, 30, 31, 32, 33, 34, 35, 36, 37] (by decide +kernel) (by decide +kernel)
set_option maxRecDepth 20000 in
theorem gX2_aboutPaint_X2_allDrops : GoodIn wsX2_aboutPaint (wsV RX2 69 RX2 yX2_allDrops wsX2_allDrops) := goodIn_app (goodIn_of _ (by decide +kernel)) ggX2_aboutPaint_X2_allDrops
set_option maxRecDepth 20000 in
theorem ggX2_aboutPaint_X2_hasPaint : GoodIn wsX2_aboutPaint wsX2_hasPaint := goodIn_r _ [19, 12, 13, 14, 7, 15, 9, 26, 27, 28, 29, 30, 31, 32, 33, 34, 35, 36, 37] (by decide +kernel) (by decide +kernel)
set_option maxRecDepth 20000 in
theorem gX2_aboutPaint_X2_hasPaint : GoodIn wsX2_aboutPaint (wsV RX2 105 RX2 yX2_hasPaint wsX2_hasPaint) := goodIn_app (goodIn_of _ (by decide +kernel)) ggX2_aboutPaint_X2_hasPaint
set_option maxRecDepth 20000 in
theorem ggX2_aboutPaint_X2_strength : GoodIn wsX2_aboutPaint wsX2_strength := goodIn_r _ [23, 9, 10, 2, 11, 12, 13, 14, 7, 15, 24, 25, 26, 27, 28, 29, 30, 31, 32, 33, 34, 35, 36, 37] (by decide +kernel) (by decide +kernel)
set_option maxRecDepth 20000 in
theorem gX2_aboutPaint_X2_strength : GoodIn wsX2_aboutPaint (wsV RX2 83 RX2 yX2_strength wsX2_strength) := goodIn_app (goodIn_of _ (by decide +kernel)) ggX2_aboutPaint_X2_strength
theorem dX2_aboutPaint_0 : decode cX2_aboutPaint 0 = .ok (.iload_n 2, 1) := by decide +kernel
theorem dX2_aboutPaint_1 : decode cX2_aboutPaint 1 = .ok (.iconst 0, 1) := by decide +kernel
theorem dX2_aboutPaint_2 : decode cX2_aboutPaint 2 = .ok (.bipush 7, 2) := by decide +kernel
theorem dX2_aboutPaint_4 : decode cX2_aboutPaint 4 = .ok (.invokestatic 57, 3) := by decide +kernel
theorem dX2_aboutPaint_7 : decode cX2_aboutPaint 7 = .ok (.ifCond .ne 6, 3) := by decide +kernel
theorem dX2_aboutPaint_10 : decode cX2_aboutPaint 10 = .ok (.bipush (-2), 2) := by decide +kernel
theorem dX2_aboutPaint_12 : decode cX2_aboutPaint 12 = .ok (.ireturn, 1) := by decide +kernel
theorem dX2_aboutPaint_13 : decode cX2_aboutPaint 13 = .ok (.iload_n 2, 1) := by decide +kernel
theorem dX2_aboutPaint_14 : decode cX2_aboutPaint 14 = .ok (.iconst 4, 1) := by decide +kernel
theorem dX2_aboutPaint_15 : decode cX2_aboutPaint 15 = .ok (.if_icmp .ge 10, 3) := by decide +kernel
theorem dX2_aboutPaint_18 : decode cX2_aboutPaint 18 = .ok (.aload_n 0, 1) := by decide +kernel
theorem dX2_aboutPaint_19 : decode cX2_aboutPaint 19 = .ok (.iload_n 1, 1) := by decide +kernel
theorem dX2_aboutPaint_20 : decode cX2_aboutPaint 20 = .ok (.iload_n 2, 1) := by decide +kernel
theorem dX2_aboutPaint_21 : decode cX2_aboutPaint 21 = .ok (.invokevirtual 102, 3) := by decide +kernel
theorem dX2_aboutPaint_24 : decode cX2_aboutPaint 24 = .ok (.ireturn, 1) := by decide +kernel
theorem dX2_aboutPaint_25 : decode cX2_aboutPaint 25 = .ok (.iload_n 2, 1) := by decide +kernel
theorem dX2_aboutPaint_26 : decode cX2_aboutPaint 26 = .ok (.iconst 4, 1) := by decide +kernel
theorem dX2_aboutPaint_27 : decode cX2_aboutPaint 27 = .ok (.if_icmp .ne 9, 3) := by decide +kernel
theorem dX2_aboutPaint_30 : decode cX2_aboutPaint 30 = .ok (.aload_n 0, 1) := by decide +kernel
theorem dX2_aboutPaint_31 : decode cX2_aboutPaint 31 = .ok (.iload_n 1, 1) := by decide +kernel
theorem dX2_aboutPaint_32 : decode cX2_aboutPaint 32 = .ok (.invokevirtual 69, 3) := by decide +kernel
theorem dX2_aboutPaint_35 : decode cX2_aboutPaint 35 = .ok (.ireturn, 1) := by decide +kernel
theorem dX2_aboutPaint_36 : decode cX2_aboutPaint 36 = .ok (.aload_n 0, 1) := by decide +kernel
theorem dX2_aboutPaint_37 : decode cX2_aboutPaint 37 = .ok (.iload_n 1, 1) := by decide +kernel
theorem dX2_aboutPaint_38 : decode cX2_aboutPaint 38 = .ok (.invokevirtual 105, 3) := by decide +kernel
theorem dX2_aboutPaint_41 : decode cX2_aboutPaint 41 = .ok (.ifCond .eq 14, 3) := by decide +kernel
theorem dX2_aboutPaint_44 : decode cX2_aboutPaint 44 = .ok (.aload_n 0, 1) := by decide +kernel
theorem dX2_aboutPaint_45 : decode cX2_aboutPaint 45 = .ok (.iload_n 1, 1) := by decide +kernel
theorem dX2_aboutPaint_46 : decode cX2_aboutPaint 46 = .ok (.iload_n 2, 1) := by decide +kernel
theorem dX2_aboutPaint_47 : decode cX2_aboutPaint 47 = .ok (.iconst 5, 1) := by decide +kernel
theorem dX2_aboutPaint_48 : decode cX2_aboutPaint 48 = .ok (.isub, 1) := by decide +kernel
theorem dX2_aboutPaint_49 : decode cX2_aboutPaint 49 = .ok (.invokevirtual 83, 3) := by decide +kernel
theorem dX2_aboutPaint_52 : decode cX2_aboutPaint 52 = .ok (.goto 5, 3) := by decide +kernel
theorem dX2_aboutPaint_55 : decode cX2_aboutPaint 55 = .ok (.bipush (-6), 2) := by decide +kernel
theorem dX2_aboutPaint_57 : decode cX2_aboutPaint 57 = .ok (.ireturn, 1) := by decide +kernel
set_option maxRecDepth 20000 in
theorem ggX2_timesThinned_X4_at : GoodIn wsX2_timesThinned wsX4_at := goodIn_r _ [4] (by decide +kernel) (by decide +kernel)
set_option maxRecDepth 20000 in
theorem gX2_timesThinned_X4_at_n61 : GoodIn wsX2_timesThinned (wsX4_at) := ggX2_timesThinned_X4_at
theorem dX2_timesThinned_0 : decode cX2_timesThinned 0 = .ok (.aload_n 0, 1) := by decide +kernel
theorem dX2_timesThinned_1 : decode cX2_timesThinned 1 = .ok (.getfield 22, 3) := by decide +kernel
theorem dX2_timesThinned_4 : decode cX2_timesThinned 4 = .ok (.iload_n 1, 1) := by decide +kernel
theorem dX2_timesThinned_5 : decode cX2_timesThinned 5 = .ok (.invokestatic 61, 3) := by decide +kernel
theorem dX2_timesThinned_8 : decode cX2_timesThinned 8 = .ok (.ireturn, 1) := by decide +kernel
set_option maxRecDepth 20000 in
theorem ggX2_aboutPanel_X4_isBetween : GoodIn wsX2_aboutPanel wsX4_isBetween := goodIn_r _ [6] (by decide +kernel) (by decide +kernel)
set_option maxRecDepth 20000 in
theorem gX2_aboutPanel_X4_isBetween_n57 : GoodIn wsX2_aboutPanel (wsX4_isBetween) := ggX2_aboutPanel_X4_isBetween
set_option maxRecDepth 20000 in
theorem ggX2_aboutPanel_X4_at : GoodIn wsX2_aboutPanel wsX4_at := goodIn_r _ [8] (by decide +kernel) (by decide +kernel)
set_option maxRecDepth 20000 in
theorem gX2_aboutPanel_X4_at_n61 : GoodIn wsX2_aboutPanel (wsX4_at) := ggX2_aboutPanel_X4_at
set_option maxRecDepth 20000 in
theorem ggX2_aboutPanel_X2_isWell : GoodIn wsX2_aboutPanel wsX2_isWell := goodIn_r _ [13, 14, 15, 16, 17, 12, 18, 2, 7, 5, 8, 19, 20, 21, 22, 3, 23, 24, 25, 26, 1, 27, 28, 29, 30, 31, 32, 33, 34, 35, 36, 37, 38, 39, 40, 41, 42] (by decide +kernel) (by decide +kernel)
set_option maxRecDepth 20000 in
theorem gX2_aboutPanel_X2_isWell : GoodIn wsX2_aboutPanel (wsV RX2 108 RX2 yX2_isWell wsX2_isWell) := goodIn_app (goodIn_of _ (by decide +kernel)) ggX2_aboutPanel_X2_isWell
set_option maxRecDepth 20000 in
theorem ggX2_aboutPanel_X2_isPainted : GoodIn wsX2_aboutPanel wsX2_isPainted := goodIn_r _ [18, 2, 7, 5, 8, 31, 32, 33, 34, 35, 36, 37, 38, 39, 40, 41, 42] (by decide +kernel) (by decide +kernel)
set_option maxRecDepth 20000 in
theorem gX2_aboutPanel_X2_isPainted : GoodIn wsX2_aboutPanel (wsV RX2 111 RX2 yX2_isPainted wsX2_isPainted) := goodIn_app (goodIn_of _ (by decide +kernel)) ggX2_aboutPanel_X2_isPainted
set_option maxRecDepth 20000 in
theorem ggX2_aboutPanel_X2_distanceOfPanel : GoodIn wsX2_aboutPanel wsX2_distanceOfPanel := goodIn_r _ [22, 3, 7, 5, 8, 23, 24, 25, 12, 26, 1, 27, 28, 29, 30, 31, 32, 33, 34, 35, 36, 37, 38, 39, 40, 41, 42] (by decide +kernel) (by decide +kernel)
set_option maxRecDepth 20000 in
theorem gX2_aboutPanel_X2_distanceOfPanel : GoodIn wsX2_aboutPanel (wsV RX2 91 RX2 yX2_distanceOfPanel wsX2_distanceOfPanel) := goodIn_app (goodIn_of _ (by decide +kernel)) ggX2_aboutPanel_X2_distanceOfPanel
theorem dX2_aboutPanel_0 : decode cX2_aboutPanel 0 = .ok (.iload_n 2, 1) := by decide +kernel
theorem dX2_aboutPanel_1 : decode cX2_aboutPanel 1 = .ok (.iconst 0, 1) := by decide +kernel
theorem dX2_aboutPanel_2 : decode cX2_aboutPanel 2 = .ok (.bipush 8, 2) := by decide +kernel
theorem dX2_aboutPanel_4 : decode cX2_aboutPanel 4 = .ok (.invokestatic 57, 3) := by decide +kernel
theorem dX2_aboutPanel_7 : decode cX2_aboutPanel 7 = .ok (.ifCond .ne 6, 3) := by decide +kernel
theorem dX2_aboutPanel_10 : decode cX2_aboutPanel 10 = .ok (.bipush (-2), 2) := by decide +kernel
theorem dX2_aboutPanel_12 : decode cX2_aboutPanel 12 = .ok (.ireturn, 1) := by decide +kernel
theorem dX2_aboutPanel_13 : decode cX2_aboutPanel 13 = .ok (.iload_n 2, 1) := by decide +kernel
theorem dX2_aboutPanel_14 : decode cX2_aboutPanel 14 = .ok (.iconst 3, 1) := by decide +kernel
theorem dX2_aboutPanel_15 : decode cX2_aboutPanel 15 = .ok (.if_icmp .ge 16, 3) := by decide +kernel
theorem dX2_aboutPanel_18 : decode cX2_aboutPanel 18 = .ok (.aload_n 0, 1) := by decide +kernel
theorem dX2_aboutPanel_19 : decode cX2_aboutPanel 19 = .ok (.getfield 25, 3) := by decide +kernel
theorem dX2_aboutPanel_22 : decode cX2_aboutPanel 22 = .ok (.iload_n 1, 1) := by decide +kernel
theorem dX2_aboutPanel_23 : decode cX2_aboutPanel 23 = .ok (.iconst 3, 1) := by decide +kernel
theorem dX2_aboutPanel_24 : decode cX2_aboutPanel 24 = .ok (.imul, 1) := by decide +kernel
theorem dX2_aboutPanel_25 : decode cX2_aboutPanel 25 = .ok (.iload_n 2, 1) := by decide +kernel
theorem dX2_aboutPanel_26 : decode cX2_aboutPanel 26 = .ok (.iadd, 1) := by decide +kernel
theorem dX2_aboutPanel_27 : decode cX2_aboutPanel 27 = .ok (.invokestatic 61, 3) := by decide +kernel
theorem dX2_aboutPanel_30 : decode cX2_aboutPanel 30 = .ok (.ireturn, 1) := by decide +kernel
theorem dX2_aboutPanel_31 : decode cX2_aboutPanel 31 = .ok (.iload_n 2, 1) := by decide +kernel
theorem dX2_aboutPanel_32 : decode cX2_aboutPanel 32 = .ok (.bipush 7, 2) := by decide +kernel
theorem dX2_aboutPanel_34 : decode cX2_aboutPanel 34 = .ok (.if_icmp .ne 17, 3) := by decide +kernel
theorem dX2_aboutPanel_37 : decode cX2_aboutPanel 37 = .ok (.aload_n 0, 1) := by decide +kernel
theorem dX2_aboutPanel_38 : decode cX2_aboutPanel 38 = .ok (.iload_n 1, 1) := by decide +kernel
theorem dX2_aboutPanel_39 : decode cX2_aboutPanel 39 = .ok (.invokevirtual 108, 3) := by decide +kernel
theorem dX2_aboutPanel_42 : decode cX2_aboutPanel 42 = .ok (.ifCond .eq 7, 3) := by decide +kernel
theorem dX2_aboutPanel_45 : decode cX2_aboutPanel 45 = .ok (.iconst 1, 1) := by decide +kernel
theorem dX2_aboutPanel_46 : decode cX2_aboutPanel 46 = .ok (.goto 4, 3) := by decide +kernel
theorem dX2_aboutPanel_49 : decode cX2_aboutPanel 49 = .ok (.iconst 0, 1) := by decide +kernel
theorem dX2_aboutPanel_50 : decode cX2_aboutPanel 50 = .ok (.ireturn, 1) := by decide +kernel
theorem dX2_aboutPanel_51 : decode cX2_aboutPanel 51 = .ok (.iload_n 2, 1) := by decide +kernel
theorem dX2_aboutPanel_52 : decode cX2_aboutPanel 52 = .ok (.bipush 8, 2) := by decide +kernel
theorem dX2_aboutPanel_54 : decode cX2_aboutPanel 54 = .ok (.if_icmp .ne 12, 3) := by decide +kernel
theorem dX2_aboutPanel_57 : decode cX2_aboutPanel 57 = .ok (.aload_n 0, 1) := by decide +kernel
theorem dX2_aboutPanel_58 : decode cX2_aboutPanel 58 = .ok (.getfield 31, 3) := by decide +kernel
theorem dX2_aboutPanel_61 : decode cX2_aboutPanel 61 = .ok (.iload_n 1, 1) := by decide +kernel
theorem dX2_aboutPanel_62 : decode cX2_aboutPanel 62 = .ok (.invokestatic 61, 3) := by decide +kernel
theorem dX2_aboutPanel_65 : decode cX2_aboutPanel 65 = .ok (.ireturn, 1) := by decide +kernel
theorem dX2_aboutPanel_66 : decode cX2_aboutPanel 66 = .ok (.aload_n 0, 1) := by decide +kernel
theorem dX2_aboutPanel_67 : decode cX2_aboutPanel 67 = .ok (.iload_n 1, 1) := by decide +kernel
theorem dX2_aboutPanel_68 : decode cX2_aboutPanel 68 = .ok (.invokevirtual 111, 3) := by decide +kernel
theorem dX2_aboutPanel_71 : decode cX2_aboutPanel 71 = .ok (.ifCond .ne 6, 3) := by decide +kernel
theorem dX2_aboutPanel_74 : decode cX2_aboutPanel 74 = .ok (.bipush (-6), 2) := by decide +kernel
theorem dX2_aboutPanel_76 : decode cX2_aboutPanel 76 = .ok (.ireturn, 1) := by decide +kernel
theorem dX2_aboutPanel_77 : decode cX2_aboutPanel 77 = .ok (.iload_n 2, 1) := by decide +kernel
theorem dX2_aboutPanel_78 : decode cX2_aboutPanel 78 = .ok (.bipush 6, 2) := by decide +kernel
theorem dX2_aboutPanel_80 : decode cX2_aboutPanel 80 = .ok (.if_icmp .ne 11, 3) := by decide +kernel
theorem dX2_aboutPanel_83 : decode cX2_aboutPanel 83 = .ok (.aload_n 0, 1) := by decide +kernel
theorem dX2_aboutPanel_84 : decode cX2_aboutPanel 84 = .ok (.iload_n 1, 1) := by decide +kernel
theorem dX2_aboutPanel_85 : decode cX2_aboutPanel 85 = .ok (.invokevirtual 91, 3) := by decide +kernel
theorem dX2_aboutPanel_88 : decode cX2_aboutPanel 88 = .ok (.goto 17, 3) := by decide +kernel
theorem dX2_aboutPanel_91 : decode cX2_aboutPanel 91 = .ok (.aload_n 0, 1) := by decide +kernel
theorem dX2_aboutPanel_92 : decode cX2_aboutPanel 92 = .ok (.getfield 28, 3) := by decide +kernel
theorem dX2_aboutPanel_95 : decode cX2_aboutPanel 95 = .ok (.iload_n 1, 1) := by decide +kernel
theorem dX2_aboutPanel_96 : decode cX2_aboutPanel 96 = .ok (.iconst 3, 1) := by decide +kernel
theorem dX2_aboutPanel_97 : decode cX2_aboutPanel 97 = .ok (.imul, 1) := by decide +kernel
theorem dX2_aboutPanel_98 : decode cX2_aboutPanel 98 = .ok (.iload_n 2, 1) := by decide +kernel
theorem dX2_aboutPanel_99 : decode cX2_aboutPanel 99 = .ok (.iadd, 1) := by decide +kernel
theorem dX2_aboutPanel_100 : decode cX2_aboutPanel 100 = .ok (.iconst 3, 1) := by decide +kernel
theorem dX2_aboutPanel_101 : decode cX2_aboutPanel 101 = .ok (.isub, 1) := by decide +kernel
theorem dX2_aboutPanel_102 : decode cX2_aboutPanel 102 = .ok (.invokestatic 61, 3) := by decide +kernel
theorem dX2_aboutPanel_105 : decode cX2_aboutPanel 105 = .ok (.ireturn, 1) := by decide +kernel
set_option maxRecDepth 20000 in
theorem ggX2_account_X4_at : GoodIn wsX2_account wsX4_at := goodIn_r _ [8] (by decide +kernel) (by decide +kernel)
set_option maxRecDepth 20000 in
theorem gX2_account_X4_at_n61 : GoodIn wsX2_account (wsX4_at) := ggX2_account_X4_at
set_option maxRecDepth 20000 in
theorem ggX2_account_X2_dropsInPots : GoodIn wsX2_account wsX2_dropsInPots := goodIn_r _ [13, 14, 15, 16, 12, 17, 18, 54, 55, 56, 57, 58, 59, 60, 61, 62, 63, 64, 65] (by decide +kernel) (by decide +kernel)
set_option maxRecDepth 20000 in
theorem gX2_account_X2_dropsInPots : GoodIn wsX2_account (wsV RX2 114 RX2 yX2_dropsInPots wsX2_dropsInPots) := goodIn_app (goodIn_of _ (by decide +kernel)) ggX2_account_X2_dropsInPots
set_option maxRecDepth 20000 in
theorem ggX2_account_X2_panelsPainted : GoodIn wsX2_account wsX2_panelsPainted := goodIn_r _ [22, 23, 24, 25, 12, 26, 27, 6, 7, 8, 54, 55, 56, 57, 58, 59, 60, 61, 62, 63, 64, 65] (by decide +kernel) (by decide +kernel)
set_option maxRecDepth 20000 in
theorem gX2_account_X2_panelsPainted : GoodIn wsX2_account (wsV RX2 117 RX2 yX2_panelsPainted wsX2_panelsPainted) := goodIn_app (goodIn_of _ (by decide +kernel)) ggX2_account_X2_panelsPainted
set_option maxRecDepth 20000 in
theorem ggX2_account_X2_panelsWell : GoodIn wsX2_account wsX2_panelsWell := goodIn_r _ [31, 32, 33, 34, 12, 35, 1, 23, 24, 25, 26, 27, 6, 7, 8, 36, 37, 38, 39, 40, 41, 42, 43, 44, 45, 46, 47, 48, 49, 54, 55, 56, 57, 58, 59, 60, 61, 62, 63, 64, 65] (by decide +kernel) (by decide +kernel)
set_option maxRecDepth 20000 in
theorem gX2_account_X2_panelsWell : GoodIn wsX2_account (wsV RX2 98 RX2 yX2_panelsWell wsX2_panelsWell) := goodIn_app (goodIn_of _ (by decide +kernel)) ggX2_account_X2_panelsWell
set_option maxRecDepth 20000 in
theorem ggX2_account_X2_allStrokes : GoodIn wsX2_account wsX2_allStrokes := goodIn_r _ [53, 27, 6, 7, 8, 54, 55, 56, 57, 58, 59, 60, 61, 62, 63, 64, 65] (by decide +kernel) (by decide +kernel)
set_option maxRecDepth 20000 in
theorem gX2_account_X2_allStrokes : GoodIn wsX2_account (wsV RX2 120 RX2 yX2_allStrokes wsX2_allStrokes) := goodIn_app (goodIn_of _ (by decide +kernel)) ggX2_account_X2_allStrokes
theorem dX2_account_0 : decode cX2_account 0 = .ok (.iload_n 1, 1) := by decide +kernel
theorem dX2_account_1 : decode cX2_account 1 = .ok (.tableswitch 113 0 9 #[55, 64, 73, 78, 83, 88, 93, 98, 103, 108], 55) := by decide +kernel
theorem dX2_account_56 : decode cX2_account 56 = .ok (.aload_n 0, 1) := by decide +kernel
theorem dX2_account_57 : decode cX2_account 57 = .ok (.getfield 9, 3) := by decide +kernel
theorem dX2_account_60 : decode cX2_account 60 = .ok (.iconst 0, 1) := by decide +kernel
theorem dX2_account_61 : decode cX2_account 61 = .ok (.invokestatic 61, 3) := by decide +kernel
theorem dX2_account_64 : decode cX2_account 64 = .ok (.ireturn, 1) := by decide +kernel
theorem dX2_account_65 : decode cX2_account 65 = .ok (.aload_n 0, 1) := by decide +kernel
theorem dX2_account_66 : decode cX2_account 66 = .ok (.getfield 9, 3) := by decide +kernel
theorem dX2_account_69 : decode cX2_account 69 = .ok (.iconst 1, 1) := by decide +kernel
theorem dX2_account_70 : decode cX2_account 70 = .ok (.invokestatic 61, 3) := by decide +kernel
theorem dX2_account_73 : decode cX2_account 73 = .ok (.ireturn, 1) := by decide +kernel
theorem dX2_account_74 : decode cX2_account 74 = .ok (.aload_n 0, 1) := by decide +kernel
theorem dX2_account_75 : decode cX2_account 75 = .ok (.getfield 34, 3) := by decide +kernel
theorem dX2_account_78 : decode cX2_account 78 = .ok (.ireturn, 1) := by decide +kernel
theorem dX2_account_79 : decode cX2_account 79 = .ok (.aload_n 0, 1) := by decide +kernel
theorem dX2_account_80 : decode cX2_account 80 = .ok (.invokevirtual 114, 3) := by decide +kernel
theorem dX2_account_83 : decode cX2_account 83 = .ok (.ireturn, 1) := by decide +kernel
theorem dX2_account_84 : decode cX2_account 84 = .ok (.aload_n 0, 1) := by decide +kernel
theorem dX2_account_85 : decode cX2_account 85 = .ok (.getfield 38, 3) := by decide +kernel
theorem dX2_account_88 : decode cX2_account 88 = .ok (.ireturn, 1) := by decide +kernel
theorem dX2_account_89 : decode cX2_account 89 = .ok (.aload_n 0, 1) := by decide +kernel
theorem dX2_account_90 : decode cX2_account 90 = .ok (.getfield 41, 3) := by decide +kernel
theorem dX2_account_93 : decode cX2_account 93 = .ok (.ireturn, 1) := by decide +kernel
theorem dX2_account_94 : decode cX2_account 94 = .ok (.aload_n 0, 1) := by decide +kernel
theorem dX2_account_95 : decode cX2_account 95 = .ok (.invokevirtual 117, 3) := by decide +kernel
theorem dX2_account_98 : decode cX2_account 98 = .ok (.ireturn, 1) := by decide +kernel
theorem dX2_account_99 : decode cX2_account 99 = .ok (.aload_n 0, 1) := by decide +kernel
theorem dX2_account_100 : decode cX2_account 100 = .ok (.invokevirtual 98, 3) := by decide +kernel
theorem dX2_account_103 : decode cX2_account 103 = .ok (.ireturn, 1) := by decide +kernel
theorem dX2_account_104 : decode cX2_account 104 = .ok (.aload_n 0, 1) := by decide +kernel
theorem dX2_account_105 : decode cX2_account 105 = .ok (.invokevirtual 120, 3) := by decide +kernel
theorem dX2_account_108 : decode cX2_account 108 = .ok (.ireturn, 1) := by decide +kernel
theorem dX2_account_109 : decode cX2_account 109 = .ok (.aload_n 0, 1) := by decide +kernel
theorem dX2_account_110 : decode cX2_account 110 = .ok (.getfield 44, 3) := by decide +kernel
theorem dX2_account_113 : decode cX2_account 113 = .ok (.ireturn, 1) := by decide +kernel
theorem dX2_account_114 : decode cX2_account 114 = .ok (.bipush (-2), 2) := by decide +kernel
theorem dX2_account_116 : decode cX2_account 116 = .ok (.ireturn, 1) := by decide +kernel
set_option maxRecDepth 20000 in
theorem ggX2_dropsInPots_X2_allDrops : GoodIn wsX2_dropsInPots wsX2_allDrops := goodIn_r _ [5, 6, 7, 8, 9, 10, 11, 12, 13, 14, 15, 16, 17, 18] (by decide +kernel) (by decide +kernel)
set_option maxRecDepth 20000 in
theorem gX2_dropsInPots_X2_allDrops : GoodIn wsX2_dropsInPots (wsV RX2 69 RX2 yX2_allDrops wsX2_allDrops) := goodIn_app (goodIn_of _ (by decide +kernel)) ggX2_dropsInPots_X2_allDrops
theorem dX2_dropsInPots_0 : decode cX2_dropsInPots 0 = .ok (.iconst 0, 1) := by decide +kernel
theorem dX2_dropsInPots_1 : decode cX2_dropsInPots 1 = .ok (.istore_n 1, 1) := by decide +kernel
theorem dX2_dropsInPots_2 : decode cX2_dropsInPots 2 = .ok (.iconst 0, 1) := by decide +kernel
theorem dX2_dropsInPots_3 : decode cX2_dropsInPots 3 = .ok (.istore_n 2, 1) := by decide +kernel
theorem dX2_dropsInPots_4 : decode cX2_dropsInPots 4 = .ok (.iload_n 2, 1) := by decide +kernel
theorem dX2_dropsInPots_5 : decode cX2_dropsInPots 5 = .ok (.bipush 8, 2) := by decide +kernel
theorem dX2_dropsInPots_7 : decode cX2_dropsInPots 7 = .ok (.if_icmp .ge 17, 3) := by decide +kernel
theorem dX2_dropsInPots_10 : decode cX2_dropsInPots 10 = .ok (.iload_n 1, 1) := by decide +kernel
theorem dX2_dropsInPots_11 : decode cX2_dropsInPots 11 = .ok (.aload_n 0, 1) := by decide +kernel
theorem dX2_dropsInPots_12 : decode cX2_dropsInPots 12 = .ok (.iload_n 2, 1) := by decide +kernel
theorem dX2_dropsInPots_13 : decode cX2_dropsInPots 13 = .ok (.invokevirtual 69, 3) := by decide +kernel
theorem dX2_dropsInPots_16 : decode cX2_dropsInPots 16 = .ok (.iadd, 1) := by decide +kernel
theorem dX2_dropsInPots_17 : decode cX2_dropsInPots 17 = .ok (.istore_n 1, 1) := by decide +kernel
theorem dX2_dropsInPots_18 : decode cX2_dropsInPots 18 = .ok (.iinc 2 1, 3) := by decide +kernel
theorem dX2_dropsInPots_21 : decode cX2_dropsInPots 21 = .ok (.goto (-17), 3) := by decide +kernel
theorem dX2_dropsInPots_24 : decode cX2_dropsInPots 24 = .ok (.iload_n 1, 1) := by decide +kernel
theorem dX2_dropsInPots_25 : decode cX2_dropsInPots 25 = .ok (.ireturn, 1) := by decide +kernel
set_option maxRecDepth 20000 in
theorem ggX2_dropsOf_X4_at : GoodIn wsX2_dropsOf wsX4_at := goodIn_r _ [4] (by decide +kernel) (by decide +kernel)
set_option maxRecDepth 20000 in
theorem gX2_dropsOf_X4_at_n61 : GoodIn wsX2_dropsOf (wsX4_at) := ggX2_dropsOf_X4_at
theorem dX2_dropsOf_0 : decode cX2_dropsOf 0 = .ok (.aload_n 0, 1) := by decide +kernel
theorem dX2_dropsOf_1 : decode cX2_dropsOf 1 = .ok (.getfield 19, 3) := by decide +kernel
theorem dX2_dropsOf_4 : decode cX2_dropsOf 4 = .ok (.iload_n 1, 1) := by decide +kernel
theorem dX2_dropsOf_5 : decode cX2_dropsOf 5 = .ok (.iconst 4, 1) := by decide +kernel
theorem dX2_dropsOf_6 : decode cX2_dropsOf 6 = .ok (.imul, 1) := by decide +kernel
theorem dX2_dropsOf_7 : decode cX2_dropsOf 7 = .ok (.iload_n 2, 1) := by decide +kernel
theorem dX2_dropsOf_8 : decode cX2_dropsOf 8 = .ok (.iadd, 1) := by decide +kernel
theorem dX2_dropsOf_9 : decode cX2_dropsOf 9 = .ok (.invokestatic 61, 3) := by decide +kernel
theorem dX2_dropsOf_12 : decode cX2_dropsOf 12 = .ok (.ireturn, 1) := by decide +kernel
theorem dX2_allDrops_0 : decode cX2_allDrops 0 = .ok (.iload_n 1, 1) := by decide +kernel
theorem dX2_allDrops_1 : decode cX2_allDrops 1 = .ok (.iconst 4, 1) := by decide +kernel
theorem dX2_allDrops_2 : decode cX2_allDrops 2 = .ok (.imul, 1) := by decide +kernel
theorem dX2_allDrops_3 : decode cX2_allDrops 3 = .ok (.istore_n 2, 1) := by decide +kernel
theorem dX2_allDrops_4 : decode cX2_allDrops 4 = .ok (.iload_n 2, 1) := by decide +kernel
theorem dX2_allDrops_5 : decode cX2_allDrops 5 = .ok (.ifCond .lt 14, 3) := by decide +kernel
theorem dX2_allDrops_8 : decode cX2_allDrops 8 = .ok (.iload_n 2, 1) := by decide +kernel
theorem dX2_allDrops_9 : decode cX2_allDrops 9 = .ok (.aload_n 0, 1) := by decide +kernel
theorem dX2_allDrops_10 : decode cX2_allDrops 10 = .ok (.getfield 19, 3) := by decide +kernel
theorem dX2_allDrops_13 : decode cX2_allDrops 13 = .ok (.arraylength, 1) := by decide +kernel
theorem dX2_allDrops_14 : decode cX2_allDrops 14 = .ok (.iconst 4, 1) := by decide +kernel
theorem dX2_allDrops_15 : decode cX2_allDrops 15 = .ok (.isub, 1) := by decide +kernel
theorem dX2_allDrops_16 : decode cX2_allDrops 16 = .ok (.if_icmp .le 5, 3) := by decide +kernel
theorem dX2_allDrops_19 : decode cX2_allDrops 19 = .ok (.iconst 0, 1) := by decide +kernel
theorem dX2_allDrops_20 : decode cX2_allDrops 20 = .ok (.ireturn, 1) := by decide +kernel
theorem dX2_allDrops_21 : decode cX2_allDrops 21 = .ok (.aload_n 0, 1) := by decide +kernel
theorem dX2_allDrops_22 : decode cX2_allDrops 22 = .ok (.getfield 19, 3) := by decide +kernel
theorem dX2_allDrops_25 : decode cX2_allDrops 25 = .ok (.iload_n 2, 1) := by decide +kernel
theorem dX2_allDrops_26 : decode cX2_allDrops 26 = .ok (.iaload, 1) := by decide +kernel
theorem dX2_allDrops_27 : decode cX2_allDrops 27 = .ok (.aload_n 0, 1) := by decide +kernel
theorem dX2_allDrops_28 : decode cX2_allDrops 28 = .ok (.getfield 19, 3) := by decide +kernel
theorem dX2_allDrops_31 : decode cX2_allDrops 31 = .ok (.iload_n 2, 1) := by decide +kernel
theorem dX2_allDrops_32 : decode cX2_allDrops 32 = .ok (.iconst 1, 1) := by decide +kernel
theorem dX2_allDrops_33 : decode cX2_allDrops 33 = .ok (.iadd, 1) := by decide +kernel
theorem dX2_allDrops_34 : decode cX2_allDrops 34 = .ok (.iaload, 1) := by decide +kernel
theorem dX2_allDrops_35 : decode cX2_allDrops 35 = .ok (.iadd, 1) := by decide +kernel
theorem dX2_allDrops_36 : decode cX2_allDrops 36 = .ok (.aload_n 0, 1) := by decide +kernel
theorem dX2_allDrops_37 : decode cX2_allDrops 37 = .ok (.getfield 19, 3) := by decide +kernel
theorem dX2_allDrops_40 : decode cX2_allDrops 40 = .ok (.iload_n 2, 1) := by decide +kernel
theorem dX2_allDrops_41 : decode cX2_allDrops 41 = .ok (.iconst 2, 1) := by decide +kernel
theorem dX2_allDrops_42 : decode cX2_allDrops 42 = .ok (.iadd, 1) := by decide +kernel
theorem dX2_allDrops_43 : decode cX2_allDrops 43 = .ok (.iaload, 1) := by decide +kernel
theorem dX2_allDrops_44 : decode cX2_allDrops 44 = .ok (.iadd, 1) := by decide +kernel
theorem dX2_allDrops_45 : decode cX2_allDrops 45 = .ok (.aload_n 0, 1) := by decide +kernel
theorem dX2_allDrops_46 : decode cX2_allDrops 46 = .ok (.getfield 19, 3) := by decide +kernel
theorem dX2_allDrops_49 : decode cX2_allDrops 49 = .ok (.iload_n 2, 1) := by decide +kernel
theorem dX2_allDrops_50 : decode cX2_allDrops 50 = .ok (.iconst 3, 1) := by decide +kernel
theorem dX2_allDrops_51 : decode cX2_allDrops 51 = .ok (.iadd, 1) := by decide +kernel
theorem dX2_allDrops_52 : decode cX2_allDrops 52 = .ok (.iaload, 1) := by decide +kernel
theorem dX2_allDrops_53 : decode cX2_allDrops 53 = .ok (.iadd, 1) := by decide +kernel
theorem dX2_allDrops_54 : decode cX2_allDrops 54 = .ok (.ireturn, 1) := by decide +kernel
set_option maxRecDepth 20000 in
theorem ggX2_hasPaint_X2_allDrops : GoodIn wsX2_hasPaint wsX2_allDrops := goodIn_r _ [5, 6, 7, 8, 9, 10, 11, 12, 13, 14, 15, 16, 17, 18] (by decide +kernel) (by decide +kernel)
set_option maxRecDepth 20000 in
theorem gX2_hasPaint_X2_allDrops : GoodIn wsX2_hasPaint (wsV RX2 69 RX2 yX2_allDrops wsX2_allDrops) := goodIn_app (goodIn_of _ (by decide +kernel)) ggX2_hasPaint_X2_allDrops
theorem dX2_hasPaint_0 : decode cX2_hasPaint 0 = .ok (.aload_n 0, 1) := by decide +kernel
theorem dX2_hasPaint_1 : decode cX2_hasPaint 1 = .ok (.iload_n 1, 1) := by decide +kernel
theorem dX2_hasPaint_2 : decode cX2_hasPaint 2 = .ok (.invokevirtual 69, 3) := by decide +kernel
theorem dX2_hasPaint_5 : decode cX2_hasPaint 5 = .ok (.ifCond .le 7, 3) := by decide +kernel
theorem dX2_hasPaint_8 : decode cX2_hasPaint 8 = .ok (.iconst 1, 1) := by decide +kernel
theorem dX2_hasPaint_9 : decode cX2_hasPaint 9 = .ok (.goto 4, 3) := by decide +kernel
theorem dX2_hasPaint_12 : decode cX2_hasPaint 12 = .ok (.iconst 0, 1) := by decide +kernel
theorem dX2_hasPaint_13 : decode cX2_hasPaint 13 = .ok (.ireturn, 1) := by decide +kernel
set_option maxRecDepth 20000 in
theorem ggX2_distanceOfPaint_X2_strength : GoodIn wsX2_distanceOfPaint wsX2_strength := goodIn_r _ [5, 6, 7, 8, 9, 10, 11, 12, 4, 13, 14, 15, 25, 26, 27, 28, 29, 30, 31, 32, 33, 34, 35, 36] (by decide +kernel) (by decide +kernel)
set_option maxRecDepth 20000 in
theorem gX2_distanceOfPaint_X2_strength : GoodIn wsX2_distanceOfPaint (wsV RX2 83 RX2 yX2_strength wsX2_strength) := goodIn_app (goodIn_of _ (by decide +kernel)) ggX2_distanceOfPaint_X2_strength
set_option maxRecDepth 20000 in
theorem ggX2_distanceOfPaint_X2_distance : GoodIn wsX2_distanceOfPaint wsX2_distance := goodIn_r _ [19, 20, 21, 22, 23, 24, 7, 8, 9, 25, 26, 27, 28, 29, 30, 31, 32, 33, 34, 35, 36] (by decide +kernel) (by decide +kernel)
set_option maxRecDepth 20000 in
theorem gX2_distanceOfPaint_X2_distance : GoodIn wsX2_distanceOfPaint (wsV RX2 123 RX2 yX2_distance wsX2_distance) := goodIn_app (goodIn_of _ (by decide +kernel)) ggX2_distanceOfPaint_X2_distance
theorem dX2_distanceOfPaint_0 : decode cX2_distanceOfPaint 0 = .ok (.aload_n 0, 1) := by decide +kernel
theorem dX2_distanceOfPaint_1 : decode cX2_distanceOfPaint 1 = .ok (.iload_n 1, 1) := by decide +kernel
theorem dX2_distanceOfPaint_2 : decode cX2_distanceOfPaint 2 = .ok (.aload_n 0, 1) := by decide +kernel
theorem dX2_distanceOfPaint_3 : decode cX2_distanceOfPaint 3 = .ok (.iload_n 2, 1) := by decide +kernel
theorem dX2_distanceOfPaint_4 : decode cX2_distanceOfPaint 4 = .ok (.iconst 0, 1) := by decide +kernel
theorem dX2_distanceOfPaint_5 : decode cX2_distanceOfPaint 5 = .ok (.invokevirtual 83, 3) := by decide +kernel
theorem dX2_distanceOfPaint_8 : decode cX2_distanceOfPaint 8 = .ok (.aload_n 0, 1) := by decide +kernel
theorem dX2_distanceOfPaint_9 : decode cX2_distanceOfPaint 9 = .ok (.iload_n 2, 1) := by decide +kernel
theorem dX2_distanceOfPaint_10 : decode cX2_distanceOfPaint 10 = .ok (.iconst 1, 1) := by decide +kernel
theorem dX2_distanceOfPaint_11 : decode cX2_distanceOfPaint 11 = .ok (.invokevirtual 83, 3) := by decide +kernel
theorem dX2_distanceOfPaint_14 : decode cX2_distanceOfPaint 14 = .ok (.aload_n 0, 1) := by decide +kernel
theorem dX2_distanceOfPaint_15 : decode cX2_distanceOfPaint 15 = .ok (.iload_n 2, 1) := by decide +kernel
theorem dX2_distanceOfPaint_16 : decode cX2_distanceOfPaint 16 = .ok (.iconst 2, 1) := by decide +kernel
theorem dX2_distanceOfPaint_17 : decode cX2_distanceOfPaint 17 = .ok (.invokevirtual 83, 3) := by decide +kernel
theorem dX2_distanceOfPaint_20 : decode cX2_distanceOfPaint 20 = .ok (.invokevirtual 123, 3) := by decide +kernel
theorem dX2_distanceOfPaint_23 : decode cX2_distanceOfPaint 23 = .ok (.ireturn, 1) := by decide +kernel
set_option maxRecDepth 20000 in
theorem ggX2_distance_X4_at : GoodIn wsX2_distance wsX4_at := goodIn_r _ [8] (by decide +kernel) (by decide +kernel)
set_option maxRecDepth 20000 in
theorem gX2_distance_X4_at_n61 : GoodIn wsX2_distance (wsX4_at) := ggX2_distance_X4_at
theorem dX2_distance_0 : decode cX2_distance 0 = .ok (.iload_n 1, 1) := by decide +kernel
theorem dX2_distance_1 : decode cX2_distance 1 = .ok (.iconst 3, 1) := by decide +kernel
theorem dX2_distance_2 : decode cX2_distance 2 = .ok (.imul, 1) := by decide +kernel
theorem dX2_distance_3 : decode cX2_distance 3 = .ok (.istore 5, 2) := by decide +kernel
theorem dX2_distance_5 : decode cX2_distance 5 = .ok (.iload_n 2, 1) := by decide +kernel
theorem dX2_distance_6 : decode cX2_distance 6 = .ok (.aload_n 0, 1) := by decide +kernel
theorem dX2_distance_7 : decode cX2_distance 7 = .ok (.getfield 25, 3) := by decide +kernel
theorem dX2_distance_10 : decode cX2_distance 10 = .ok (.iload 5, 2) := by decide +kernel
theorem dX2_distance_12 : decode cX2_distance 12 = .ok (.invokestatic 61, 3) := by decide +kernel
theorem dX2_distance_15 : decode cX2_distance 15 = .ok (.isub, 1) := by decide +kernel
theorem dX2_distance_16 : decode cX2_distance 16 = .ok (.invokestatic 126, 3) := by decide +kernel
theorem dX2_distance_19 : decode cX2_distance 19 = .ok (.iload_n 3, 1) := by decide +kernel
theorem dX2_distance_20 : decode cX2_distance 20 = .ok (.aload_n 0, 1) := by decide +kernel
theorem dX2_distance_21 : decode cX2_distance 21 = .ok (.getfield 25, 3) := by decide +kernel
theorem dX2_distance_24 : decode cX2_distance 24 = .ok (.iload 5, 2) := by decide +kernel
theorem dX2_distance_26 : decode cX2_distance 26 = .ok (.iconst 1, 1) := by decide +kernel
theorem dX2_distance_27 : decode cX2_distance 27 = .ok (.iadd, 1) := by decide +kernel
theorem dX2_distance_28 : decode cX2_distance 28 = .ok (.invokestatic 61, 3) := by decide +kernel
theorem dX2_distance_31 : decode cX2_distance 31 = .ok (.isub, 1) := by decide +kernel
theorem dX2_distance_32 : decode cX2_distance 32 = .ok (.invokestatic 126, 3) := by decide +kernel
theorem dX2_distance_35 : decode cX2_distance 35 = .ok (.iadd, 1) := by decide +kernel
theorem dX2_distance_36 : decode cX2_distance 36 = .ok (.iload 4, 2) := by decide +kernel
theorem dX2_distance_38 : decode cX2_distance 38 = .ok (.aload_n 0, 1) := by decide +kernel
theorem dX2_distance_39 : decode cX2_distance 39 = .ok (.getfield 25, 3) := by decide +kernel
theorem dX2_distance_42 : decode cX2_distance 42 = .ok (.iload 5, 2) := by decide +kernel
theorem dX2_distance_44 : decode cX2_distance 44 = .ok (.iconst 2, 1) := by decide +kernel
theorem dX2_distance_45 : decode cX2_distance 45 = .ok (.iadd, 1) := by decide +kernel
theorem dX2_distance_46 : decode cX2_distance 46 = .ok (.invokestatic 61, 3) := by decide +kernel
theorem dX2_distance_49 : decode cX2_distance 49 = .ok (.isub, 1) := by decide +kernel
theorem dX2_distance_50 : decode cX2_distance 50 = .ok (.invokestatic 126, 3) := by decide +kernel
theorem dX2_distance_53 : decode cX2_distance 53 = .ok (.iadd, 1) := by decide +kernel
theorem dX2_distance_54 : decode cX2_distance 54 = .ok (.ireturn, 1) := by decide +kernel
set_option maxRecDepth 20000 in
theorem ggX2_strength_X4_at : GoodIn wsX2_strength wsX4_at := goodIn_r _ [4] (by decide +kernel) (by decide +kernel)
set_option maxRecDepth 20000 in
theorem gX2_strength_X4_at_n61 : GoodIn wsX2_strength (wsX4_at) := ggX2_strength_X4_at
set_option maxRecDepth 20000 in
theorem ggX2_strength_X2_allDrops : GoodIn wsX2_strength wsX2_allDrops := goodIn_r _ [9, 1, 12, 13, 14, 15, 16, 17, 18, 19, 20, 21, 22, 23] (by decide +kernel) (by decide +kernel)
set_option maxRecDepth 20000 in
theorem gX2_strength_X2_allDrops : GoodIn wsX2_strength (wsV RX2 69 RX2 yX2_allDrops wsX2_allDrops) := goodIn_app (goodIn_of _ (by decide +kernel)) ggX2_strength_X2_allDrops
set_option maxRecDepth 20000 in
theorem ggX2_strength_X4_divide : GoodIn wsX2_strength wsX4_divide := goodIn_r _ [11] (by decide +kernel) (by decide +kernel)
set_option maxRecDepth 20000 in
theorem gX2_strength_X4_divide_n131 : GoodIn wsX2_strength (wsX4_divide) := ggX2_strength_X4_divide
theorem dX2_strength_0 : decode cX2_strength 0 = .ok (.bipush 100, 2) := by decide +kernel
theorem dX2_strength_2 : decode cX2_strength 2 = .ok (.aload_n 0, 1) := by decide +kernel
theorem dX2_strength_3 : decode cX2_strength 3 = .ok (.getfield 19, 3) := by decide +kernel
theorem dX2_strength_6 : decode cX2_strength 6 = .ok (.iload_n 1, 1) := by decide +kernel
theorem dX2_strength_7 : decode cX2_strength 7 = .ok (.iconst 4, 1) := by decide +kernel
theorem dX2_strength_8 : decode cX2_strength 8 = .ok (.imul, 1) := by decide +kernel
theorem dX2_strength_9 : decode cX2_strength 9 = .ok (.iload_n 2, 1) := by decide +kernel
theorem dX2_strength_10 : decode cX2_strength 10 = .ok (.iadd, 1) := by decide +kernel
theorem dX2_strength_11 : decode cX2_strength 11 = .ok (.invokestatic 61, 3) := by decide +kernel
theorem dX2_strength_14 : decode cX2_strength 14 = .ok (.imul, 1) := by decide +kernel
theorem dX2_strength_15 : decode cX2_strength 15 = .ok (.aload_n 0, 1) := by decide +kernel
theorem dX2_strength_16 : decode cX2_strength 16 = .ok (.iload_n 1, 1) := by decide +kernel
theorem dX2_strength_17 : decode cX2_strength 17 = .ok (.invokevirtual 69, 3) := by decide +kernel
theorem dX2_strength_20 : decode cX2_strength 20 = .ok (.invokestatic 131, 3) := by decide +kernel
theorem dX2_strength_23 : decode cX2_strength 23 = .ok (.ireturn, 1) := by decide +kernel
set_option maxRecDepth 20000 in
theorem ggX2_distanceOfPanel_X4_at : GoodIn wsX2_distanceOfPanel wsX4_at := goodIn_r _ [4] (by decide +kernel) (by decide +kernel)
set_option maxRecDepth 20000 in
theorem gX2_distanceOfPanel_X4_at_n61 : GoodIn wsX2_distanceOfPanel (wsX4_at) := ggX2_distanceOfPanel_X4_at
set_option maxRecDepth 20000 in
theorem ggX2_distanceOfPanel_X2_distance : GoodIn wsX2_distanceOfPanel wsX2_distance := goodIn_r _ [9, 10, 11, 12, 13, 14, 2, 3, 4, 15, 16, 17, 18, 19, 20, 21, 22, 23, 24, 25, 26] (by decide +kernel) (by decide +kernel)
set_option maxRecDepth 20000 in
theorem gX2_distanceOfPanel_X2_distance : GoodIn wsX2_distanceOfPanel (wsV RX2 123 RX2 yX2_distance wsX2_distance) := goodIn_app (goodIn_of _ (by decide +kernel)) ggX2_distanceOfPanel_X2_distance
theorem dX2_distanceOfPanel_0 : decode cX2_distanceOfPanel 0 = .ok (.iload_n 1, 1) := by decide +kernel
theorem dX2_distanceOfPanel_1 : decode cX2_distanceOfPanel 1 = .ok (.iconst 3, 1) := by decide +kernel
theorem dX2_distanceOfPanel_2 : decode cX2_distanceOfPanel 2 = .ok (.imul, 1) := by decide +kernel
theorem dX2_distanceOfPanel_3 : decode cX2_distanceOfPanel 3 = .ok (.istore_n 2, 1) := by decide +kernel
theorem dX2_distanceOfPanel_4 : decode cX2_distanceOfPanel 4 = .ok (.aload_n 0, 1) := by decide +kernel
theorem dX2_distanceOfPanel_5 : decode cX2_distanceOfPanel 5 = .ok (.iload_n 1, 1) := by decide +kernel
theorem dX2_distanceOfPanel_6 : decode cX2_distanceOfPanel 6 = .ok (.aload_n 0, 1) := by decide +kernel
theorem dX2_distanceOfPanel_7 : decode cX2_distanceOfPanel 7 = .ok (.getfield 28, 3) := by decide +kernel
theorem dX2_distanceOfPanel_10 : decode cX2_distanceOfPanel 10 = .ok (.iload_n 2, 1) := by decide +kernel
theorem dX2_distanceOfPanel_11 : decode cX2_distanceOfPanel 11 = .ok (.invokestatic 61, 3) := by decide +kernel
theorem dX2_distanceOfPanel_14 : decode cX2_distanceOfPanel 14 = .ok (.aload_n 0, 1) := by decide +kernel
theorem dX2_distanceOfPanel_15 : decode cX2_distanceOfPanel 15 = .ok (.getfield 28, 3) := by decide +kernel
theorem dX2_distanceOfPanel_18 : decode cX2_distanceOfPanel 18 = .ok (.iload_n 2, 1) := by decide +kernel
theorem dX2_distanceOfPanel_19 : decode cX2_distanceOfPanel 19 = .ok (.iconst 1, 1) := by decide +kernel
theorem dX2_distanceOfPanel_20 : decode cX2_distanceOfPanel 20 = .ok (.iadd, 1) := by decide +kernel
theorem dX2_distanceOfPanel_21 : decode cX2_distanceOfPanel 21 = .ok (.invokestatic 61, 3) := by decide +kernel
theorem dX2_distanceOfPanel_24 : decode cX2_distanceOfPanel 24 = .ok (.aload_n 0, 1) := by decide +kernel
theorem dX2_distanceOfPanel_25 : decode cX2_distanceOfPanel 25 = .ok (.getfield 28, 3) := by decide +kernel
theorem dX2_distanceOfPanel_28 : decode cX2_distanceOfPanel 28 = .ok (.iload_n 2, 1) := by decide +kernel
theorem dX2_distanceOfPanel_29 : decode cX2_distanceOfPanel 29 = .ok (.iconst 2, 1) := by decide +kernel
theorem dX2_distanceOfPanel_30 : decode cX2_distanceOfPanel 30 = .ok (.iadd, 1) := by decide +kernel
theorem dX2_distanceOfPanel_31 : decode cX2_distanceOfPanel 31 = .ok (.invokestatic 61, 3) := by decide +kernel
theorem dX2_distanceOfPanel_34 : decode cX2_distanceOfPanel 34 = .ok (.invokevirtual 123, 3) := by decide +kernel
theorem dX2_distanceOfPanel_37 : decode cX2_distanceOfPanel 37 = .ok (.ireturn, 1) := by decide +kernel
set_option maxRecDepth 20000 in
theorem ggX2_isStrength_X4_isBetween : GoodIn wsX2_isStrength wsX4_isBetween := goodIn_r _ [3] (by decide +kernel) (by decide +kernel)
set_option maxRecDepth 20000 in
theorem gX2_isStrength_X4_isBetween_n57 : GoodIn wsX2_isStrength (wsX4_isBetween) := ggX2_isStrength_X4_isBetween
theorem dX2_isStrength_0 : decode cX2_isStrength 0 = .ok (.iload_n 0, 1) := by decide +kernel
theorem dX2_isStrength_1 : decode cX2_isStrength 1 = .ok (.iconst 0, 1) := by decide +kernel
theorem dX2_isStrength_2 : decode cX2_isStrength 2 = .ok (.bipush 100, 2) := by decide +kernel
theorem dX2_isStrength_4 : decode cX2_isStrength 4 = .ok (.invokestatic 57, 3) := by decide +kernel
theorem dX2_isStrength_7 : decode cX2_isStrength 7 = .ok (.ireturn, 1) := by decide +kernel
set_option maxRecDepth 20000 in
theorem ggX2_isPainted_X4_at : GoodIn wsX2_isPainted wsX4_at := goodIn_r _ [4] (by decide +kernel) (by decide +kernel)
set_option maxRecDepth 20000 in
theorem gX2_isPainted_X4_at_n61 : GoodIn wsX2_isPainted (wsX4_at) := ggX2_isPainted_X4_at
theorem dX2_isPainted_0 : decode cX2_isPainted 0 = .ok (.aload_n 0, 1) := by decide +kernel
theorem dX2_isPainted_1 : decode cX2_isPainted 1 = .ok (.getfield 31, 3) := by decide +kernel
theorem dX2_isPainted_4 : decode cX2_isPainted 4 = .ok (.iload_n 1, 1) := by decide +kernel
theorem dX2_isPainted_5 : decode cX2_isPainted 5 = .ok (.invokestatic 61, 3) := by decide +kernel
theorem dX2_isPainted_8 : decode cX2_isPainted 8 = .ok (.ifCond .le 7, 3) := by decide +kernel
theorem dX2_isPainted_11 : decode cX2_isPainted 11 = .ok (.iconst 1, 1) := by decide +kernel
theorem dX2_isPainted_12 : decode cX2_isPainted 12 = .ok (.goto 4, 3) := by decide +kernel
theorem dX2_isPainted_15 : decode cX2_isPainted 15 = .ok (.iconst 0, 1) := by decide +kernel
theorem dX2_isPainted_16 : decode cX2_isPainted 16 = .ok (.ireturn, 1) := by decide +kernel
set_option maxRecDepth 20000 in
theorem ggX2_isWell_X2_isPainted : GoodIn wsX2_isWell wsX2_isPainted := goodIn_r _ [6, 7, 8, 9, 10, 25, 26, 27, 28, 29, 30, 31, 32, 33, 34, 35, 36] (by decide +kernel) (by decide +kernel)
set_option maxRecDepth 20000 in
theorem gX2_isWell_X2_isPainted : GoodIn wsX2_isWell (wsV RX2 111 RX2 yX2_isPainted wsX2_isPainted) := goodIn_app (goodIn_of _ (by decide +kernel)) ggX2_isWell_X2_isPainted
set_option maxRecDepth 20000 in
theorem ggX2_isWell_X2_distanceOfPanel : GoodIn wsX2_isWell wsX2_distanceOfPanel := goodIn_r _ [14, 15, 8, 9, 10, 16, 17, 18, 5, 19, 20, 21, 22, 23, 24, 25, 26, 27, 28, 29, 30, 31, 32, 33, 34, 35, 36] (by decide +kernel) (by decide +kernel)
set_option maxRecDepth 20000 in
theorem gX2_isWell_X2_distanceOfPanel : GoodIn wsX2_isWell (wsV RX2 91 RX2 yX2_distanceOfPanel wsX2_distanceOfPanel) := goodIn_app (goodIn_of _ (by decide +kernel)) ggX2_isWell_X2_distanceOfPanel
set_option maxRecDepth 20000 in
theorem ggX2_isWell_X4_at : GoodIn wsX2_isWell wsX4_at := goodIn_r _ [10] (by decide +kernel) (by decide +kernel)
set_option maxRecDepth 20000 in
theorem gX2_isWell_X4_at_n61 : GoodIn wsX2_isWell (wsX4_at) := ggX2_isWell_X4_at
theorem dX2_isWell_0 : decode cX2_isWell 0 = .ok (.aload_n 0, 1) := by decide +kernel
theorem dX2_isWell_1 : decode cX2_isWell 1 = .ok (.iload_n 1, 1) := by decide +kernel
theorem dX2_isWell_2 : decode cX2_isWell 2 = .ok (.invokevirtual 111, 3) := by decide +kernel
theorem dX2_isWell_5 : decode cX2_isWell 5 = .ok (.ifCond .eq 23, 3) := by decide +kernel
theorem dX2_isWell_8 : decode cX2_isWell 8 = .ok (.aload_n 0, 1) := by decide +kernel
theorem dX2_isWell_9 : decode cX2_isWell 9 = .ok (.iload_n 1, 1) := by decide +kernel
theorem dX2_isWell_10 : decode cX2_isWell 10 = .ok (.invokevirtual 91, 3) := by decide +kernel
theorem dX2_isWell_13 : decode cX2_isWell 13 = .ok (.aload_n 0, 1) := by decide +kernel
theorem dX2_isWell_14 : decode cX2_isWell 14 = .ok (.getfield 9, 3) := by decide +kernel
theorem dX2_isWell_17 : decode cX2_isWell 17 = .ok (.iconst 1, 1) := by decide +kernel
theorem dX2_isWell_18 : decode cX2_isWell 18 = .ok (.invokestatic 61, 3) := by decide +kernel
theorem dX2_isWell_21 : decode cX2_isWell 21 = .ok (.if_icmp .gt 7, 3) := by decide +kernel
theorem dX2_isWell_24 : decode cX2_isWell 24 = .ok (.iconst 1, 1) := by decide +kernel
theorem dX2_isWell_25 : decode cX2_isWell 25 = .ok (.goto 4, 3) := by decide +kernel
theorem dX2_isWell_28 : decode cX2_isWell 28 = .ok (.iconst 0, 1) := by decide +kernel
theorem dX2_isWell_29 : decode cX2_isWell 29 = .ok (.ireturn, 1) := by decide +kernel
set_option maxRecDepth 20000 in
theorem ggX2_panelsPainted_X2_isPainted : GoodIn wsX2_panelsPainted wsX2_isPainted := goodIn_r _ [5, 6, 7, 8, 9, 10, 11, 12, 13, 14, 15, 16, 17, 18, 19, 20, 21] (by decide +kernel) (by decide +kernel)
set_option maxRecDepth 20000 in
theorem gX2_panelsPainted_X2_isPainted : GoodIn wsX2_panelsPainted (wsV RX2 111 RX2 yX2_isPainted wsX2_isPainted) := goodIn_app (goodIn_of _ (by decide +kernel)) ggX2_panelsPainted_X2_isPainted
theorem dX2_panelsPainted_0 : decode cX2_panelsPainted 0 = .ok (.iconst 0, 1) := by decide +kernel
theorem dX2_panelsPainted_1 : decode cX2_panelsPainted 1 = .ok (.istore_n 1, 1) := by decide +kernel
theorem dX2_panelsPainted_2 : decode cX2_panelsPainted 2 = .ok (.iconst 0, 1) := by decide +kernel
theorem dX2_panelsPainted_3 : decode cX2_panelsPainted 3 = .ok (.istore_n 2, 1) := by decide +kernel
theorem dX2_panelsPainted_4 : decode cX2_panelsPainted 4 = .ok (.iload_n 2, 1) := by decide +kernel
theorem dX2_panelsPainted_5 : decode cX2_panelsPainted 5 = .ok (.bipush 6, 2) := by decide +kernel
theorem dX2_panelsPainted_7 : decode cX2_panelsPainted 7 = .ok (.if_icmp .ge 25, 3) := by decide +kernel
theorem dX2_panelsPainted_10 : decode cX2_panelsPainted 10 = .ok (.iload_n 1, 1) := by decide +kernel
theorem dX2_panelsPainted_11 : decode cX2_panelsPainted 11 = .ok (.aload_n 0, 1) := by decide +kernel
theorem dX2_panelsPainted_12 : decode cX2_panelsPainted 12 = .ok (.iload_n 2, 1) := by decide +kernel
theorem dX2_panelsPainted_13 : decode cX2_panelsPainted 13 = .ok (.invokevirtual 111, 3) := by decide +kernel
theorem dX2_panelsPainted_16 : decode cX2_panelsPainted 16 = .ok (.ifCond .eq 7, 3) := by decide +kernel
theorem dX2_panelsPainted_19 : decode cX2_panelsPainted 19 = .ok (.iconst 1, 1) := by decide +kernel
theorem dX2_panelsPainted_20 : decode cX2_panelsPainted 20 = .ok (.goto 4, 3) := by decide +kernel
theorem dX2_panelsPainted_23 : decode cX2_panelsPainted 23 = .ok (.iconst 0, 1) := by decide +kernel
theorem dX2_panelsPainted_24 : decode cX2_panelsPainted 24 = .ok (.iadd, 1) := by decide +kernel
theorem dX2_panelsPainted_25 : decode cX2_panelsPainted 25 = .ok (.istore_n 1, 1) := by decide +kernel
theorem dX2_panelsPainted_26 : decode cX2_panelsPainted 26 = .ok (.iinc 2 1, 3) := by decide +kernel
theorem dX2_panelsPainted_29 : decode cX2_panelsPainted 29 = .ok (.goto (-25), 3) := by decide +kernel
theorem dX2_panelsPainted_32 : decode cX2_panelsPainted 32 = .ok (.iload_n 1, 1) := by decide +kernel
theorem dX2_panelsPainted_33 : decode cX2_panelsPainted 33 = .ok (.ireturn, 1) := by decide +kernel
set_option maxRecDepth 20000 in
theorem ggX2_panelsWell_X2_isWell : GoodIn wsX2_panelsWell wsX2_isWell := goodIn_r _ [5, 6, 7, 8, 9, 4, 10, 11, 12, 13, 14, 15, 16, 17, 18, 19, 20, 21, 22, 23, 24, 25, 26, 27, 28, 29, 30, 31, 32, 33, 34, 35, 36, 37, 38, 39, 40] (by decide +kernel) (by decide +kernel)
set_option maxRecDepth 20000 in
theorem gX2_panelsWell_X2_isWell : GoodIn wsX2_panelsWell (wsV RX2 108 RX2 yX2_isWell wsX2_isWell) := goodIn_app (goodIn_of _ (by decide +kernel)) ggX2_panelsWell_X2_isWell
theorem dX2_panelsWell_0 : decode cX2_panelsWell 0 = .ok (.iconst 0, 1) := by decide +kernel
theorem dX2_panelsWell_1 : decode cX2_panelsWell 1 = .ok (.istore_n 1, 1) := by decide +kernel
theorem dX2_panelsWell_2 : decode cX2_panelsWell 2 = .ok (.iconst 0, 1) := by decide +kernel
theorem dX2_panelsWell_3 : decode cX2_panelsWell 3 = .ok (.istore_n 2, 1) := by decide +kernel
theorem dX2_panelsWell_4 : decode cX2_panelsWell 4 = .ok (.iload_n 2, 1) := by decide +kernel
theorem dX2_panelsWell_5 : decode cX2_panelsWell 5 = .ok (.bipush 6, 2) := by decide +kernel
theorem dX2_panelsWell_7 : decode cX2_panelsWell 7 = .ok (.if_icmp .ge 25, 3) := by decide +kernel
theorem dX2_panelsWell_10 : decode cX2_panelsWell 10 = .ok (.iload_n 1, 1) := by decide +kernel
theorem dX2_panelsWell_11 : decode cX2_panelsWell 11 = .ok (.aload_n 0, 1) := by decide +kernel
theorem dX2_panelsWell_12 : decode cX2_panelsWell 12 = .ok (.iload_n 2, 1) := by decide +kernel
theorem dX2_panelsWell_13 : decode cX2_panelsWell 13 = .ok (.invokevirtual 108, 3) := by decide +kernel
theorem dX2_panelsWell_16 : decode cX2_panelsWell 16 = .ok (.ifCond .eq 7, 3) := by decide +kernel
theorem dX2_panelsWell_19 : decode cX2_panelsWell 19 = .ok (.iconst 1, 1) := by decide +kernel
theorem dX2_panelsWell_20 : decode cX2_panelsWell 20 = .ok (.goto 4, 3) := by decide +kernel
theorem dX2_panelsWell_23 : decode cX2_panelsWell 23 = .ok (.iconst 0, 1) := by decide +kernel
theorem dX2_panelsWell_24 : decode cX2_panelsWell 24 = .ok (.iadd, 1) := by decide +kernel
theorem dX2_panelsWell_25 : decode cX2_panelsWell 25 = .ok (.istore_n 1, 1) := by decide +kernel
theorem dX2_panelsWell_26 : decode cX2_panelsWell 26 = .ok (.iinc 2 1, 3) := by decide +kernel
theorem dX2_panelsWell_29 : decode cX2_panelsWell 29 = .ok (.goto (-25), 3) := by decide +kernel
theorem dX2_panelsWell_32 : decode cX2_panelsWell 32 = .ok (.iload_n 1, 1) := by decide +kernel
theorem dX2_panelsWell_33 : decode cX2_panelsWell 33 = .ok (.ireturn, 1) := by decide +kernel
set_option maxRecDepth 20000 in
theorem ggX2_allStrokes_X4_at : GoodIn wsX2_allStrokes wsX4_at := goodIn_r _ [4] (by decide +kernel) (by decide +kernel)
set_option maxRecDepth 20000 in
theorem gX2_allStrokes_X4_at_n61 : GoodIn wsX2_allStrokes (wsX4_at) := ggX2_allStrokes_X4_at
theorem dX2_allStrokes_0 : decode cX2_allStrokes 0 = .ok (.iconst 0, 1) := by decide +kernel
theorem dX2_allStrokes_1 : decode cX2_allStrokes 1 = .ok (.istore_n 1, 1) := by decide +kernel
theorem dX2_allStrokes_2 : decode cX2_allStrokes 2 = .ok (.iconst 0, 1) := by decide +kernel
theorem dX2_allStrokes_3 : decode cX2_allStrokes 3 = .ok (.istore_n 2, 1) := by decide +kernel
theorem dX2_allStrokes_4 : decode cX2_allStrokes 4 = .ok (.iload_n 2, 1) := by decide +kernel
theorem dX2_allStrokes_5 : decode cX2_allStrokes 5 = .ok (.bipush 6, 2) := by decide +kernel
theorem dX2_allStrokes_7 : decode cX2_allStrokes 7 = .ok (.if_icmp .ge 20, 3) := by decide +kernel
theorem dX2_allStrokes_10 : decode cX2_allStrokes 10 = .ok (.iload_n 1, 1) := by decide +kernel
theorem dX2_allStrokes_11 : decode cX2_allStrokes 11 = .ok (.aload_n 0, 1) := by decide +kernel
theorem dX2_allStrokes_12 : decode cX2_allStrokes 12 = .ok (.getfield 31, 3) := by decide +kernel
theorem dX2_allStrokes_15 : decode cX2_allStrokes 15 = .ok (.iload_n 2, 1) := by decide +kernel
theorem dX2_allStrokes_16 : decode cX2_allStrokes 16 = .ok (.invokestatic 61, 3) := by decide +kernel
theorem dX2_allStrokes_19 : decode cX2_allStrokes 19 = .ok (.iadd, 1) := by decide +kernel
theorem dX2_allStrokes_20 : decode cX2_allStrokes 20 = .ok (.istore_n 1, 1) := by decide +kernel
theorem dX2_allStrokes_21 : decode cX2_allStrokes 21 = .ok (.iinc 2 1, 3) := by decide +kernel
theorem dX2_allStrokes_24 : decode cX2_allStrokes 24 = .ok (.goto (-20), 3) := by decide +kernel
theorem dX2_allStrokes_27 : decode cX2_allStrokes 27 = .ok (.iload_n 1, 1) := by decide +kernel
theorem dX2_allStrokes_28 : decode cX2_allStrokes 28 = .ok (.ireturn, 1) := by decide +kernel
set_option maxRecDepth 20000 in
theorem ggX2_sink_X2_allDrops : GoodIn wsX2_sink wsX2_allDrops := goodIn_r _ [7, 1, 11, 12, 13, 14, 15, 16, 17, 18, 19, 20, 21, 22] (by decide +kernel) (by decide +kernel)
set_option maxRecDepth 20000 in
theorem gX2_sink_X2_allDrops : GoodIn wsX2_sink (wsV RX2 69 RX2 yX2_allDrops wsX2_allDrops) := goodIn_app (goodIn_of _ (by decide +kernel)) ggX2_sink_X2_allDrops
set_option maxRecDepth 20000 in
theorem ggX2_sink_X4_write : GoodIn wsX2_sink wsX4_write := goodIn_r _ [10] (by decide +kernel) (by decide +kernel)
set_option maxRecDepth 20000 in
theorem gX2_sink_X4_write_n15 : GoodIn wsX2_sink (wsX4_write) := ggX2_sink_X4_write
theorem dX2_sink_0 : decode cX2_sink 0 = .ok (.aload_n 0, 1) := by decide +kernel
theorem dX2_sink_1 : decode cX2_sink 1 = .ok (.iload_n 1, 1) := by decide +kernel
theorem dX2_sink_2 : decode cX2_sink 2 = .ok (.invokevirtual 69, 3) := by decide +kernel
theorem dX2_sink_5 : decode cX2_sink 5 = .ok (.istore_n 2, 1) := by decide +kernel
theorem dX2_sink_6 : decode cX2_sink 6 = .ok (.iconst 0, 1) := by decide +kernel
theorem dX2_sink_7 : decode cX2_sink 7 = .ok (.istore_n 3, 1) := by decide +kernel
theorem dX2_sink_8 : decode cX2_sink 8 = .ok (.iload_n 3, 1) := by decide +kernel
theorem dX2_sink_9 : decode cX2_sink 9 = .ok (.iconst 4, 1) := by decide +kernel
theorem dX2_sink_10 : decode cX2_sink 10 = .ok (.if_icmp .ge 22, 3) := by decide +kernel
theorem dX2_sink_13 : decode cX2_sink 13 = .ok (.aload_n 0, 1) := by decide +kernel
theorem dX2_sink_14 : decode cX2_sink 14 = .ok (.getfield 19, 3) := by decide +kernel
theorem dX2_sink_17 : decode cX2_sink 17 = .ok (.iload_n 1, 1) := by decide +kernel
theorem dX2_sink_18 : decode cX2_sink 18 = .ok (.iconst 4, 1) := by decide +kernel
theorem dX2_sink_19 : decode cX2_sink 19 = .ok (.imul, 1) := by decide +kernel
theorem dX2_sink_20 : decode cX2_sink 20 = .ok (.iload_n 3, 1) := by decide +kernel
theorem dX2_sink_21 : decode cX2_sink 21 = .ok (.iadd, 1) := by decide +kernel
theorem dX2_sink_22 : decode cX2_sink 22 = .ok (.iconst 0, 1) := by decide +kernel
theorem dX2_sink_23 : decode cX2_sink 23 = .ok (.invokestatic 15, 3) := by decide +kernel
theorem dX2_sink_26 : decode cX2_sink 26 = .ok (.iinc 3 1, 3) := by decide +kernel
theorem dX2_sink_29 : decode cX2_sink 29 = .ok (.goto (-21), 3) := by decide +kernel
theorem dX2_sink_32 : decode cX2_sink 32 = .ok (.aload_n 0, 1) := by decide +kernel
theorem dX2_sink_33 : decode cX2_sink 33 = .ok (.dup, 1) := by decide +kernel
theorem dX2_sink_34 : decode cX2_sink 34 = .ok (.getfield 41, 3) := by decide +kernel
theorem dX2_sink_37 : decode cX2_sink 37 = .ok (.iload_n 2, 1) := by decide +kernel
theorem dX2_sink_38 : decode cX2_sink 38 = .ok (.iadd, 1) := by decide +kernel
theorem dX2_sink_39 : decode cX2_sink 39 = .ok (.putfield 41, 3) := by decide +kernel
theorem dX2_sink_42 : decode cX2_sink 42 = .ok (.iload_n 2, 1) := by decide +kernel
theorem dX2_sink_43 : decode cX2_sink 43 = .ok (.ireturn, 1) := by decide +kernel
set_option maxRecDepth 20000 in
theorem ggX2_move_X2_allDrops : GoodIn wsX2_move wsX2_allDrops := goodIn_r _ [7, 1, 30, 31, 32, 33, 34, 35, 36, 37, 38, 39, 40, 41] (by decide +kernel) (by decide +kernel)
set_option maxRecDepth 20000 in
theorem gX2_move_X2_allDrops : GoodIn wsX2_move (wsV RX2 69 RX2 yX2_allDrops wsX2_allDrops) := goodIn_app (goodIn_of _ (by decide +kernel)) ggX2_move_X2_allDrops
set_option maxRecDepth 20000 in
theorem ggX2_move_X2_takeOut : GoodIn wsX2_move wsX2_takeOut := goodIn_r _ [11, 1, 2, 12, 3, 4, 5, 6, 7, 13, 14, 15, 16, 17, 18, 19, 20, 21, 22, 23, 24, 25, 26, 27, 28, 29, 30, 31, 32, 33, 34, 35, 36, 37, 38, 39, 40, 41] (by decide +kernel) (by decide +kernel)
set_option maxRecDepth 20000 in
theorem gX2_move_X2_takeOut : GoodIn wsX2_move (wsV RX2 87 RX2 yX2_takeOut wsX2_takeOut) := goodIn_app (goodIn_of _ (by decide +kernel)) ggX2_move_X2_takeOut
set_option maxRecDepth 20000 in
theorem ggX2_move_X4_at : GoodIn wsX2_move wsX4_at := goodIn_r _ [15] (by decide +kernel) (by decide +kernel)
set_option maxRecDepth 20000 in
theorem gX2_move_X4_at_n61 : GoodIn wsX2_move (wsX4_at) := ggX2_move_X4_at
set_option maxRecDepth 20000 in
theorem ggX2_move_X4_add : GoodIn wsX2_move wsX4_add := goodIn_r _ [27, 28, 13, 14, 15, 29, 18, 19] (by decide +kernel) (by decide +kernel)
set_option maxRecDepth 20000 in
theorem gX2_move_X4_add_n73 : GoodIn wsX2_move (wsX4_add) := ggX2_move_X4_add
theorem dX2_move_0 : decode cX2_move 0 = .ok (.aload_n 0, 1) := by decide +kernel
theorem dX2_move_1 : decode cX2_move 1 = .ok (.iload_n 1, 1) := by decide +kernel
theorem dX2_move_2 : decode cX2_move 2 = .ok (.invokevirtual 69, 3) := by decide +kernel
theorem dX2_move_5 : decode cX2_move 5 = .ok (.iload_n 3, 1) := by decide +kernel
theorem dX2_move_6 : decode cX2_move 6 = .ok (.if_icmp .ge 6, 3) := by decide +kernel
theorem dX2_move_9 : decode cX2_move 9 = .ok (.bipush (-5), 2) := by decide +kernel
theorem dX2_move_11 : decode cX2_move 11 = .ok (.ireturn, 1) := by decide +kernel
theorem dX2_move_12 : decode cX2_move 12 = .ok (.aload_n 0, 1) := by decide +kernel
theorem dX2_move_13 : decode cX2_move 13 = .ok (.iload_n 2, 1) := by decide +kernel
theorem dX2_move_14 : decode cX2_move 14 = .ok (.invokevirtual 69, 3) := by decide +kernel
theorem dX2_move_17 : decode cX2_move 17 = .ok (.iload_n 3, 1) := by decide +kernel
theorem dX2_move_18 : decode cX2_move 18 = .ok (.iadd, 1) := by decide +kernel
theorem dX2_move_19 : decode cX2_move 19 = .ok (.istore 5, 2) := by decide +kernel
theorem dX2_move_21 : decode cX2_move 21 = .ok (.iload 5, 2) := by decide +kernel
theorem dX2_move_23 : decode cX2_move 23 = .ok (.iload 4, 2) := by decide +kernel
theorem dX2_move_25 : decode cX2_move 25 = .ok (.if_icmp .le 6, 3) := by decide +kernel
theorem dX2_move_28 : decode cX2_move 28 = .ok (.bipush (-4), 2) := by decide +kernel
theorem dX2_move_30 : decode cX2_move 30 = .ok (.ireturn, 1) := by decide +kernel
theorem dX2_move_31 : decode cX2_move 31 = .ok (.aload_n 0, 1) := by decide +kernel
theorem dX2_move_32 : decode cX2_move 32 = .ok (.iload_n 1, 1) := by decide +kernel
theorem dX2_move_33 : decode cX2_move 33 = .ok (.iload_n 3, 1) := by decide +kernel
theorem dX2_move_34 : decode cX2_move 34 = .ok (.invokevirtual 87, 3) := by decide +kernel
theorem dX2_move_37 : decode cX2_move 37 = .ok (.iconst 0, 1) := by decide +kernel
theorem dX2_move_38 : decode cX2_move 38 = .ok (.istore 6, 2) := by decide +kernel
theorem dX2_move_40 : decode cX2_move 40 = .ok (.iload 6, 2) := by decide +kernel
theorem dX2_move_42 : decode cX2_move 42 = .ok (.iconst 4, 1) := by decide +kernel
theorem dX2_move_43 : decode cX2_move 43 = .ok (.if_icmp .ge 31, 3) := by decide +kernel
theorem dX2_move_46 : decode cX2_move 46 = .ok (.aload_n 0, 1) := by decide +kernel
theorem dX2_move_47 : decode cX2_move 47 = .ok (.getfield 19, 3) := by decide +kernel
theorem dX2_move_50 : decode cX2_move 50 = .ok (.iload_n 2, 1) := by decide +kernel
theorem dX2_move_51 : decode cX2_move 51 = .ok (.iconst 4, 1) := by decide +kernel
theorem dX2_move_52 : decode cX2_move 52 = .ok (.imul, 1) := by decide +kernel
theorem dX2_move_53 : decode cX2_move 53 = .ok (.iload 6, 2) := by decide +kernel
theorem dX2_move_55 : decode cX2_move 55 = .ok (.iadd, 1) := by decide +kernel
theorem dX2_move_56 : decode cX2_move 56 = .ok (.aload_n 0, 1) := by decide +kernel
theorem dX2_move_57 : decode cX2_move 57 = .ok (.getfield 47, 3) := by decide +kernel
theorem dX2_move_60 : decode cX2_move 60 = .ok (.iload 6, 2) := by decide +kernel
theorem dX2_move_62 : decode cX2_move 62 = .ok (.invokestatic 61, 3) := by decide +kernel
theorem dX2_move_65 : decode cX2_move 65 = .ok (.invokestatic 73, 3) := by decide +kernel
theorem dX2_move_68 : decode cX2_move 68 = .ok (.iinc 6 1, 3) := by decide +kernel
theorem dX2_move_71 : decode cX2_move 71 = .ok (.goto (-31), 3) := by decide +kernel
theorem dX2_move_74 : decode cX2_move 74 = .ok (.iload 5, 2) := by decide +kernel
theorem dX2_move_76 : decode cX2_move 76 = .ok (.ireturn, 1) := by decide +kernel
set_option maxRecDepth 20000 in
theorem ggX2_takeOut_X2_allDrops : GoodIn wsX2_takeOut wsX2_allDrops := goodIn_r _ [8, 1, 26, 27, 28, 29, 30, 31, 32, 33, 34, 35, 36, 37] (by decide +kernel) (by decide +kernel)
set_option maxRecDepth 20000 in
theorem gX2_takeOut_X2_allDrops : GoodIn wsX2_takeOut (wsV RX2 69 RX2 yX2_allDrops wsX2_allDrops) := goodIn_app (goodIn_of _ (by decide +kernel)) ggX2_takeOut_X2_allDrops
set_option maxRecDepth 20000 in
theorem ggX2_takeOut_X4_at : GoodIn wsX2_takeOut wsX4_at := goodIn_r _ [11] (by decide +kernel) (by decide +kernel)
set_option maxRecDepth 20000 in
theorem gX2_takeOut_X4_at_n61 : GoodIn wsX2_takeOut (wsX4_at) := ggX2_takeOut_X4_at
set_option maxRecDepth 20000 in
theorem ggX2_takeOut_X4_divide : GoodIn wsX2_takeOut wsX4_divide := goodIn_r _ [13] (by decide +kernel) (by decide +kernel)
set_option maxRecDepth 20000 in
theorem gX2_takeOut_X4_divide_n131 : GoodIn wsX2_takeOut (wsX4_divide) := ggX2_takeOut_X4_divide
set_option maxRecDepth 20000 in
theorem ggX2_takeOut_X4_write : GoodIn wsX2_takeOut wsX4_write := goodIn_r _ [15] (by decide +kernel) (by decide +kernel)
set_option maxRecDepth 20000 in
theorem gX2_takeOut_X4_write_n15 : GoodIn wsX2_takeOut (wsX4_write) := ggX2_takeOut_X4_write
set_option maxRecDepth 20000 in
theorem ggX2_takeOut_X4_remainder : GoodIn wsX2_takeOut wsX4_remainder := goodIn_r _ [17] (by decide +kernel) (by decide +kernel)
set_option maxRecDepth 20000 in
theorem gX2_takeOut_X4_remainder_n134 : GoodIn wsX2_takeOut (wsX4_remainder) := ggX2_takeOut_X4_remainder
set_option maxRecDepth 20000 in
theorem ggX2_takeOut_X2_kindWithMostLeftOver : GoodIn wsX2_takeOut wsX2_kindWithMostLeftOver := goodIn_r _ [21, 3, 9, 10, 11, 26, 27, 28, 29, 30, 31, 32, 33, 34, 35, 36, 37] (by decide +kernel) (by decide +kernel)
set_option maxRecDepth 20000 in
theorem gX2_takeOut_X2_kindWithMostLeftOver : GoodIn wsX2_takeOut (wsV RX2 137 RX2 yX2_kindWithMostLeftOver wsX2_kindWithMostLeftOver) := goodIn_app (goodIn_of _ (by decide +kernel)) ggX2_takeOut_X2_kindWithMostLeftOver
set_option maxRecDepth 20000 in
theorem ggX2_takeOut_X4_add : GoodIn wsX2_takeOut wsX4_add := goodIn_r _ [23, 24, 9, 10, 11, 25, 14, 15] (by decide +kernel) (by decide +kernel)
set_option maxRecDepth 20000 in
theorem gX2_takeOut_X4_add_n73 : GoodIn wsX2_takeOut (wsX4_add) := ggX2_takeOut_X4_add
theorem dX2_takeOut_0 : decode cX2_takeOut 0 = .ok (.aload_n 0, 1) := by decide +kernel
theorem dX2_takeOut_1 : decode cX2_takeOut 1 = .ok (.iload_n 1, 1) := by decide +kernel
theorem dX2_takeOut_2 : decode cX2_takeOut 2 = .ok (.invokevirtual 69, 3) := by decide +kernel
theorem dX2_takeOut_5 : decode cX2_takeOut 5 = .ok (.istore_n 3, 1) := by decide +kernel
theorem dX2_takeOut_6 : decode cX2_takeOut 6 = .ok (.iload_n 2, 1) := by decide +kernel
theorem dX2_takeOut_7 : decode cX2_takeOut 7 = .ok (.istore 4, 2) := by decide +kernel
theorem dX2_takeOut_9 : decode cX2_takeOut 9 = .ok (.iconst 0, 1) := by decide +kernel
theorem dX2_takeOut_10 : decode cX2_takeOut 10 = .ok (.istore 5, 2) := by decide +kernel
theorem dX2_takeOut_12 : decode cX2_takeOut 12 = .ok (.iload 5, 2) := by decide +kernel
theorem dX2_takeOut_14 : decode cX2_takeOut 14 = .ok (.iconst 4, 1) := by decide +kernel
theorem dX2_takeOut_15 : decode cX2_takeOut 15 = .ok (.if_icmp .ge 70, 3) := by decide +kernel
theorem dX2_takeOut_18 : decode cX2_takeOut 18 = .ok (.aload_n 0, 1) := by decide +kernel
theorem dX2_takeOut_19 : decode cX2_takeOut 19 = .ok (.getfield 19, 3) := by decide +kernel
theorem dX2_takeOut_22 : decode cX2_takeOut 22 = .ok (.iload_n 1, 1) := by decide +kernel
theorem dX2_takeOut_23 : decode cX2_takeOut 23 = .ok (.iconst 4, 1) := by decide +kernel
theorem dX2_takeOut_24 : decode cX2_takeOut 24 = .ok (.imul, 1) := by decide +kernel
theorem dX2_takeOut_25 : decode cX2_takeOut 25 = .ok (.iload 5, 2) := by decide +kernel
theorem dX2_takeOut_27 : decode cX2_takeOut 27 = .ok (.iadd, 1) := by decide +kernel
theorem dX2_takeOut_28 : decode cX2_takeOut 28 = .ok (.invokestatic 61, 3) := by decide +kernel
theorem dX2_takeOut_31 : decode cX2_takeOut 31 = .ok (.iload_n 2, 1) := by decide +kernel
theorem dX2_takeOut_32 : decode cX2_takeOut 32 = .ok (.imul, 1) := by decide +kernel
theorem dX2_takeOut_33 : decode cX2_takeOut 33 = .ok (.istore 6, 2) := by decide +kernel
theorem dX2_takeOut_35 : decode cX2_takeOut 35 = .ok (.aload_n 0, 1) := by decide +kernel
theorem dX2_takeOut_36 : decode cX2_takeOut 36 = .ok (.getfield 47, 3) := by decide +kernel
theorem dX2_takeOut_39 : decode cX2_takeOut 39 = .ok (.iload 5, 2) := by decide +kernel
theorem dX2_takeOut_41 : decode cX2_takeOut 41 = .ok (.iload 6, 2) := by decide +kernel
theorem dX2_takeOut_43 : decode cX2_takeOut 43 = .ok (.iload_n 3, 1) := by decide +kernel
theorem dX2_takeOut_44 : decode cX2_takeOut 44 = .ok (.invokestatic 131, 3) := by decide +kernel
theorem dX2_takeOut_47 : decode cX2_takeOut 47 = .ok (.invokestatic 15, 3) := by decide +kernel
theorem dX2_takeOut_50 : decode cX2_takeOut 50 = .ok (.aload_n 0, 1) := by decide +kernel
theorem dX2_takeOut_51 : decode cX2_takeOut 51 = .ok (.getfield 50, 3) := by decide +kernel
theorem dX2_takeOut_54 : decode cX2_takeOut 54 = .ok (.iload 5, 2) := by decide +kernel
theorem dX2_takeOut_56 : decode cX2_takeOut 56 = .ok (.iload 6, 2) := by decide +kernel
theorem dX2_takeOut_58 : decode cX2_takeOut 58 = .ok (.iload_n 3, 1) := by decide +kernel
theorem dX2_takeOut_59 : decode cX2_takeOut 59 = .ok (.invokestatic 134, 3) := by decide +kernel
theorem dX2_takeOut_62 : decode cX2_takeOut 62 = .ok (.invokestatic 15, 3) := by decide +kernel
theorem dX2_takeOut_65 : decode cX2_takeOut 65 = .ok (.iload 4, 2) := by decide +kernel
theorem dX2_takeOut_67 : decode cX2_takeOut 67 = .ok (.aload_n 0, 1) := by decide +kernel
theorem dX2_takeOut_68 : decode cX2_takeOut 68 = .ok (.getfield 47, 3) := by decide +kernel
theorem dX2_takeOut_71 : decode cX2_takeOut 71 = .ok (.iload 5, 2) := by decide +kernel
theorem dX2_takeOut_73 : decode cX2_takeOut 73 = .ok (.invokestatic 61, 3) := by decide +kernel
theorem dX2_takeOut_76 : decode cX2_takeOut 76 = .ok (.isub, 1) := by decide +kernel
theorem dX2_takeOut_77 : decode cX2_takeOut 77 = .ok (.istore 4, 2) := by decide +kernel
theorem dX2_takeOut_79 : decode cX2_takeOut 79 = .ok (.iinc 5 1, 3) := by decide +kernel
theorem dX2_takeOut_82 : decode cX2_takeOut 82 = .ok (.goto (-70), 3) := by decide +kernel
theorem dX2_takeOut_85 : decode cX2_takeOut 85 = .ok (.iconst 0, 1) := by decide +kernel
theorem dX2_takeOut_86 : decode cX2_takeOut 86 = .ok (.istore 5, 2) := by decide +kernel
theorem dX2_takeOut_88 : decode cX2_takeOut 88 = .ok (.iload 5, 2) := by decide +kernel
theorem dX2_takeOut_90 : decode cX2_takeOut 90 = .ok (.iconst 4, 1) := by decide +kernel
theorem dX2_takeOut_91 : decode cX2_takeOut 91 = .ok (.if_icmp .ge 43, 3) := by decide +kernel
theorem dX2_takeOut_94 : decode cX2_takeOut 94 = .ok (.iload 4, 2) := by decide +kernel
theorem dX2_takeOut_96 : decode cX2_takeOut 96 = .ok (.ifCond .le 38, 3) := by decide +kernel
theorem dX2_takeOut_99 : decode cX2_takeOut 99 = .ok (.aload_n 0, 1) := by decide +kernel
theorem dX2_takeOut_100 : decode cX2_takeOut 100 = .ok (.invokevirtual 137, 3) := by decide +kernel
theorem dX2_takeOut_103 : decode cX2_takeOut 103 = .ok (.istore 6, 2) := by decide +kernel
theorem dX2_takeOut_105 : decode cX2_takeOut 105 = .ok (.aload_n 0, 1) := by decide +kernel
theorem dX2_takeOut_106 : decode cX2_takeOut 106 = .ok (.getfield 47, 3) := by decide +kernel
theorem dX2_takeOut_109 : decode cX2_takeOut 109 = .ok (.iload 6, 2) := by decide +kernel
theorem dX2_takeOut_111 : decode cX2_takeOut 111 = .ok (.iconst 1, 1) := by decide +kernel
theorem dX2_takeOut_112 : decode cX2_takeOut 112 = .ok (.invokestatic 73, 3) := by decide +kernel
theorem dX2_takeOut_115 : decode cX2_takeOut 115 = .ok (.aload_n 0, 1) := by decide +kernel
theorem dX2_takeOut_116 : decode cX2_takeOut 116 = .ok (.getfield 50, 3) := by decide +kernel
theorem dX2_takeOut_119 : decode cX2_takeOut 119 = .ok (.iload 6, 2) := by decide +kernel
theorem dX2_takeOut_121 : decode cX2_takeOut 121 = .ok (.iconst (-1), 1) := by decide +kernel
theorem dX2_takeOut_122 : decode cX2_takeOut 122 = .ok (.invokestatic 15, 3) := by decide +kernel
theorem dX2_takeOut_125 : decode cX2_takeOut 125 = .ok (.iinc 4 (-1), 3) := by decide +kernel
theorem dX2_takeOut_128 : decode cX2_takeOut 128 = .ok (.iinc 5 1, 3) := by decide +kernel
theorem dX2_takeOut_131 : decode cX2_takeOut 131 = .ok (.goto (-43), 3) := by decide +kernel
theorem dX2_takeOut_134 : decode cX2_takeOut 134 = .ok (.iconst 0, 1) := by decide +kernel
theorem dX2_takeOut_135 : decode cX2_takeOut 135 = .ok (.istore 5, 2) := by decide +kernel
theorem dX2_takeOut_137 : decode cX2_takeOut 137 = .ok (.iload 5, 2) := by decide +kernel
theorem dX2_takeOut_139 : decode cX2_takeOut 139 = .ok (.iconst 4, 1) := by decide +kernel
theorem dX2_takeOut_140 : decode cX2_takeOut 140 = .ok (.if_icmp .ge 32, 3) := by decide +kernel
theorem dX2_takeOut_143 : decode cX2_takeOut 143 = .ok (.aload_n 0, 1) := by decide +kernel
theorem dX2_takeOut_144 : decode cX2_takeOut 144 = .ok (.getfield 19, 3) := by decide +kernel
theorem dX2_takeOut_147 : decode cX2_takeOut 147 = .ok (.iload_n 1, 1) := by decide +kernel
theorem dX2_takeOut_148 : decode cX2_takeOut 148 = .ok (.iconst 4, 1) := by decide +kernel
theorem dX2_takeOut_149 : decode cX2_takeOut 149 = .ok (.imul, 1) := by decide +kernel
theorem dX2_takeOut_150 : decode cX2_takeOut 150 = .ok (.iload 5, 2) := by decide +kernel
theorem dX2_takeOut_152 : decode cX2_takeOut 152 = .ok (.iadd, 1) := by decide +kernel
theorem dX2_takeOut_153 : decode cX2_takeOut 153 = .ok (.aload_n 0, 1) := by decide +kernel
theorem dX2_takeOut_154 : decode cX2_takeOut 154 = .ok (.getfield 47, 3) := by decide +kernel
theorem dX2_takeOut_157 : decode cX2_takeOut 157 = .ok (.iload 5, 2) := by decide +kernel
theorem dX2_takeOut_159 : decode cX2_takeOut 159 = .ok (.invokestatic 61, 3) := by decide +kernel
theorem dX2_takeOut_162 : decode cX2_takeOut 162 = .ok (.ineg, 1) := by decide +kernel
theorem dX2_takeOut_163 : decode cX2_takeOut 163 = .ok (.invokestatic 73, 3) := by decide +kernel
theorem dX2_takeOut_166 : decode cX2_takeOut 166 = .ok (.iinc 5 1, 3) := by decide +kernel
theorem dX2_takeOut_169 : decode cX2_takeOut 169 = .ok (.goto (-32), 3) := by decide +kernel
theorem dX2_takeOut_172 : decode cX2_takeOut 172 = .ok (.return_, 1) := by decide +kernel
set_option maxRecDepth 20000 in
theorem ggX2_kindWithMostLeftOver_X4_at : GoodIn wsX2_kindWithMostLeftOver wsX4_at := goodIn_r _ [4] (by decide +kernel) (by decide +kernel)
set_option maxRecDepth 20000 in
theorem gX2_kindWithMostLeftOver_X4_at_n61 : GoodIn wsX2_kindWithMostLeftOver (wsX4_at) := ggX2_kindWithMostLeftOver_X4_at
theorem dX2_kindWithMostLeftOver_0 : decode cX2_kindWithMostLeftOver 0 = .ok (.iconst 0, 1) := by decide +kernel
theorem dX2_kindWithMostLeftOver_1 : decode cX2_kindWithMostLeftOver 1 = .ok (.istore_n 1, 1) := by decide +kernel
theorem dX2_kindWithMostLeftOver_2 : decode cX2_kindWithMostLeftOver 2 = .ok (.iconst 1, 1) := by decide +kernel
theorem dX2_kindWithMostLeftOver_3 : decode cX2_kindWithMostLeftOver 3 = .ok (.istore_n 2, 1) := by decide +kernel
theorem dX2_kindWithMostLeftOver_4 : decode cX2_kindWithMostLeftOver 4 = .ok (.iload_n 2, 1) := by decide +kernel
theorem dX2_kindWithMostLeftOver_5 : decode cX2_kindWithMostLeftOver 5 = .ok (.iconst 4, 1) := by decide +kernel
theorem dX2_kindWithMostLeftOver_6 : decode cX2_kindWithMostLeftOver 6 = .ok (.if_icmp .ge 30, 3) := by decide +kernel
theorem dX2_kindWithMostLeftOver_9 : decode cX2_kindWithMostLeftOver 9 = .ok (.aload_n 0, 1) := by decide +kernel
theorem dX2_kindWithMostLeftOver_10 : decode cX2_kindWithMostLeftOver 10 = .ok (.getfield 50, 3) := by decide +kernel
theorem dX2_kindWithMostLeftOver_13 : decode cX2_kindWithMostLeftOver 13 = .ok (.iload_n 2, 1) := by decide +kernel
theorem dX2_kindWithMostLeftOver_14 : decode cX2_kindWithMostLeftOver 14 = .ok (.invokestatic 61, 3) := by decide +kernel
theorem dX2_kindWithMostLeftOver_17 : decode cX2_kindWithMostLeftOver 17 = .ok (.aload_n 0, 1) := by decide +kernel
theorem dX2_kindWithMostLeftOver_18 : decode cX2_kindWithMostLeftOver 18 = .ok (.getfield 50, 3) := by decide +kernel
theorem dX2_kindWithMostLeftOver_21 : decode cX2_kindWithMostLeftOver 21 = .ok (.iload_n 1, 1) := by decide +kernel
theorem dX2_kindWithMostLeftOver_22 : decode cX2_kindWithMostLeftOver 22 = .ok (.invokestatic 61, 3) := by decide +kernel
theorem dX2_kindWithMostLeftOver_25 : decode cX2_kindWithMostLeftOver 25 = .ok (.if_icmp .le 5, 3) := by decide +kernel
theorem dX2_kindWithMostLeftOver_28 : decode cX2_kindWithMostLeftOver 28 = .ok (.iload_n 2, 1) := by decide +kernel
theorem dX2_kindWithMostLeftOver_29 : decode cX2_kindWithMostLeftOver 29 = .ok (.istore_n 1, 1) := by decide +kernel
theorem dX2_kindWithMostLeftOver_30 : decode cX2_kindWithMostLeftOver 30 = .ok (.iinc 2 1, 3) := by decide +kernel
theorem dX2_kindWithMostLeftOver_33 : decode cX2_kindWithMostLeftOver 33 = .ok (.goto (-29), 3) := by decide +kernel
theorem dX2_kindWithMostLeftOver_36 : decode cX2_kindWithMostLeftOver 36 = .ok (.iload_n 1, 1) := by decide +kernel
theorem dX2_kindWithMostLeftOver_37 : decode cX2_kindWithMostLeftOver 37 = .ok (.ireturn, 1) := by decide +kernel
set_option maxRecDepth 20000 in
theorem ggX3_init_X3_begin : GoodIn wsX3_init wsX3_begin := goodIn_r _ [10, 11, 12, 13, 14, 5, 15, 16, 17, 18, 19, 20, 21, 22] (by decide +kernel) (by decide +kernel)
set_option maxRecDepth 20000 in
theorem gX3_init_X3_begin : GoodIn wsX3_init (wsV RX3 15 RX3 yX3_begin wsX3_begin) := goodIn_app (goodIn_of _ (by decide +kernel)) ggX3_init_X3_begin
theorem dX3_init_0 : decode cX3_init 0 = .ok (.aload_n 0, 1) := by decide +kernel
theorem dX3_init_1 : decode cX3_init 1 = .ok (.invokespecial 3, 3) := by decide +kernel
theorem dX3_init_4 : decode cX3_init 4 = .ok (.aload_n 0, 1) := by decide +kernel
theorem dX3_init_5 : decode cX3_init 5 = .ok (.iconst 4, 1) := by decide +kernel
theorem dX3_init_6 : decode cX3_init 6 = .ok (.newarray .int, 2) := by decide +kernel
theorem dX3_init_8 : decode cX3_init 8 = .ok (.putfield 9, 3) := by decide +kernel
theorem dX3_init_11 : decode cX3_init 11 = .ok (.aload_n 0, 1) := by decide +kernel
theorem dX3_init_12 : decode cX3_init 12 = .ok (.iconst 0, 1) := by decide +kernel
theorem dX3_init_13 : decode cX3_init 13 = .ok (.iconst 0, 1) := by decide +kernel
theorem dX3_init_14 : decode cX3_init 14 = .ok (.invokevirtual 15, 3) := by decide +kernel
theorem dX3_init_17 : decode cX3_init 17 = .ok (.return_, 1) := by decide +kernel
set_option maxRecDepth 20000 in
theorem ggX3_begin_X4_write : GoodIn wsX3_begin wsX4_write := goodIn_r _ [8] (by decide +kernel) (by decide +kernel)
set_option maxRecDepth 20000 in
theorem gX3_begin_X4_write_n32 : GoodIn wsX3_begin (wsX4_write) := ggX3_begin_X4_write
theorem dX3_begin_0 : decode cX3_begin 0 = .ok (.aload_n 0, 1) := by decide +kernel
theorem dX3_begin_1 : decode cX3_begin 1 = .ok (.iload_n 1, 1) := by decide +kernel
theorem dX3_begin_2 : decode cX3_begin 2 = .ok (.putfield 19, 3) := by decide +kernel
theorem dX3_begin_5 : decode cX3_begin 5 = .ok (.aload_n 0, 1) := by decide +kernel
theorem dX3_begin_6 : decode cX3_begin 6 = .ok (.iload_n 2, 1) := by decide +kernel
theorem dX3_begin_7 : decode cX3_begin 7 = .ok (.putfield 23, 3) := by decide +kernel
theorem dX3_begin_10 : decode cX3_begin 10 = .ok (.aload_n 0, 1) := by decide +kernel
theorem dX3_begin_11 : decode cX3_begin 11 = .ok (.iconst 0, 1) := by decide +kernel
theorem dX3_begin_12 : decode cX3_begin 12 = .ok (.putfield 26, 3) := by decide +kernel
theorem dX3_begin_15 : decode cX3_begin 15 = .ok (.aload_n 0, 1) := by decide +kernel
theorem dX3_begin_16 : decode cX3_begin 16 = .ok (.iconst 0, 1) := by decide +kernel
theorem dX3_begin_17 : decode cX3_begin 17 = .ok (.putfield 29, 3) := by decide +kernel
theorem dX3_begin_20 : decode cX3_begin 20 = .ok (.iconst 0, 1) := by decide +kernel
theorem dX3_begin_21 : decode cX3_begin 21 = .ok (.istore_n 3, 1) := by decide +kernel
theorem dX3_begin_22 : decode cX3_begin 22 = .ok (.iload_n 3, 1) := by decide +kernel
theorem dX3_begin_23 : decode cX3_begin 23 = .ok (.iconst 4, 1) := by decide +kernel
theorem dX3_begin_24 : decode cX3_begin 24 = .ok (.if_icmp .ge 18, 3) := by decide +kernel
theorem dX3_begin_27 : decode cX3_begin 27 = .ok (.aload_n 0, 1) := by decide +kernel
theorem dX3_begin_28 : decode cX3_begin 28 = .ok (.getfield 9, 3) := by decide +kernel
theorem dX3_begin_31 : decode cX3_begin 31 = .ok (.iload_n 3, 1) := by decide +kernel
theorem dX3_begin_32 : decode cX3_begin 32 = .ok (.iconst 0, 1) := by decide +kernel
theorem dX3_begin_33 : decode cX3_begin 33 = .ok (.invokestatic 32, 3) := by decide +kernel
theorem dX3_begin_36 : decode cX3_begin 36 = .ok (.iinc 3 1, 3) := by decide +kernel
theorem dX3_begin_39 : decode cX3_begin 39 = .ok (.goto (-17), 3) := by decide +kernel
theorem dX3_begin_42 : decode cX3_begin 42 = .ok (.return_, 1) := by decide +kernel
set_option maxRecDepth 20000 in
theorem ggX4_init_X2_init : GoodIn wsX4_init wsX2_init := goodIn_r _ [22, 23, 2, 3, 24, 25, 26, 27, 28, 29, 30, 31, 32, 33, 34, 35, 36, 37, 38, 39, 74, 75, 76, 77, 78, 79, 80, 81, 82, 83, 84, 85] (by decide +kernel) (by decide +kernel)
set_option maxRecDepth 20000 in
theorem gX4_init_X2_init : GoodIn wsX4_init (wsX2_init) := ggX4_init_X2_init
set_option maxRecDepth 20000 in
theorem ggX4_init_X0_init : GoodIn wsX4_init wsX0_init := goodIn_r _ [42, 43, 2, 3, 44, 24, 45, 46, 47, 48, 49, 93, 94, 95, 96, 97, 98] (by decide +kernel) (by decide +kernel)
set_option maxRecDepth 20000 in
theorem gX4_init_X0_init : GoodIn wsX4_init (wsX0_init) := ggX4_init_X0_init
set_option maxRecDepth 20000 in
theorem ggX4_init_X1_init : GoodIn wsX4_init wsX1_init := goodIn_r _ [52, 53, 2, 3, 24, 54, 55, 56, 57, 58, 59, 60, 61, 62, 63, 64, 65, 66, 67, 68, 69, 70, 71, 72, 73, 37, 38, 39, 99, 100, 101, 102, 103, 104, 105, 106, 107] (by decide +kernel) (by decide +kernel)
set_option maxRecDepth 20000 in
theorem gX4_init_X1_init : GoodIn wsX4_init (wsX1_init) := ggX4_init_X1_init
theorem dX4_init_0 : decode cX4_init 0 = .ok (.aload_n 0, 1) := by decide +kernel
theorem dX4_init_1 : decode cX4_init 1 = .ok (.invokespecial 3, 3) := by decide +kernel
theorem dX4_init_4 : decode cX4_init 4 = .ok (.aload_n 0, 1) := by decide +kernel
theorem dX4_init_5 : decode cX4_init 5 = .ok (.new 9, 3) := by decide +kernel
theorem dX4_init_8 : decode cX4_init 8 = .ok (.dup, 1) := by decide +kernel
theorem dX4_init_9 : decode cX4_init 9 = .ok (.invokespecial 11, 3) := by decide +kernel
theorem dX4_init_12 : decode cX4_init 12 = .ok (.putfield 12, 3) := by decide +kernel
theorem dX4_init_15 : decode cX4_init 15 = .ok (.aload_n 0, 1) := by decide +kernel
theorem dX4_init_16 : decode cX4_init 16 = .ok (.new 16, 3) := by decide +kernel
theorem dX4_init_19 : decode cX4_init 19 = .ok (.dup, 1) := by decide +kernel
theorem dX4_init_20 : decode cX4_init 20 = .ok (.aload_n 0, 1) := by decide +kernel
theorem dX4_init_21 : decode cX4_init 21 = .ok (.getfield 12, 3) := by decide +kernel
theorem dX4_init_24 : decode cX4_init 24 = .ok (.invokespecial 18, 3) := by decide +kernel
theorem dX4_init_27 : decode cX4_init 27 = .ok (.putfield 21, 3) := by decide +kernel
theorem dX4_init_30 : decode cX4_init 30 = .ok (.aload_n 0, 1) := by decide +kernel
theorem dX4_init_31 : decode cX4_init 31 = .ok (.new 25, 3) := by decide +kernel
theorem dX4_init_34 : decode cX4_init 34 = .ok (.dup, 1) := by decide +kernel
theorem dX4_init_35 : decode cX4_init 35 = .ok (.invokespecial 27, 3) := by decide +kernel
theorem dX4_init_38 : decode cX4_init 38 = .ok (.putfield 28, 3) := by decide +kernel
theorem dX4_init_41 : decode cX4_init 41 = .ok (.aload_n 0, 1) := by decide +kernel
theorem dX4_init_42 : decode cX4_init 42 = .ok (.bipush 7, 2) := by decide +kernel
theorem dX4_init_44 : decode cX4_init 44 = .ok (.anewarray 9, 3) := by decide +kernel
theorem dX4_init_47 : decode cX4_init 47 = .ok (.putfield 32, 3) := by decide +kernel
theorem dX4_init_50 : decode cX4_init 50 = .ok (.iconst 0, 1) := by decide +kernel
theorem dX4_init_51 : decode cX4_init 51 = .ok (.istore_n 1, 1) := by decide +kernel
theorem dX4_init_52 : decode cX4_init 52 = .ok (.iload_n 1, 1) := by decide +kernel
theorem dX4_init_53 : decode cX4_init 53 = .ok (.aload_n 0, 1) := by decide +kernel
theorem dX4_init_54 : decode cX4_init 54 = .ok (.getfield 32, 3) := by decide +kernel
theorem dX4_init_57 : decode cX4_init 57 = .ok (.arraylength, 1) := by decide +kernel
theorem dX4_init_58 : decode cX4_init 58 = .ok (.if_icmp .ge 22, 3) := by decide +kernel
theorem dX4_init_61 : decode cX4_init 61 = .ok (.aload_n 0, 1) := by decide +kernel
theorem dX4_init_62 : decode cX4_init 62 = .ok (.getfield 32, 3) := by decide +kernel
theorem dX4_init_65 : decode cX4_init 65 = .ok (.iload_n 1, 1) := by decide +kernel
theorem dX4_init_66 : decode cX4_init 66 = .ok (.new 9, 3) := by decide +kernel
theorem dX4_init_69 : decode cX4_init 69 = .ok (.dup, 1) := by decide +kernel
theorem dX4_init_70 : decode cX4_init 70 = .ok (.invokespecial 11, 3) := by decide +kernel
theorem dX4_init_73 : decode cX4_init 73 = .ok (.aastore, 1) := by decide +kernel
theorem dX4_init_74 : decode cX4_init 74 = .ok (.iinc 1 1, 3) := by decide +kernel
theorem dX4_init_77 : decode cX4_init 77 = .ok (.goto (-25), 3) := by decide +kernel
theorem dX4_init_80 : decode cX4_init 80 = .ok (.aload_n 0, 1) := by decide +kernel
theorem dX4_init_81 : decode cX4_init 81 = .ok (.iconst 2, 1) := by decide +kernel
theorem dX4_init_82 : decode cX4_init 82 = .ok (.anewarray 9, 3) := by decide +kernel
theorem dX4_init_85 : decode cX4_init 85 = .ok (.putfield 36, 3) := by decide +kernel
theorem dX4_init_88 : decode cX4_init 88 = .ok (.aload_n 0, 1) := by decide +kernel
theorem dX4_init_89 : decode cX4_init 89 = .ok (.iconst 0, 1) := by decide +kernel
theorem dX4_init_90 : decode cX4_init 90 = .ok (.putfield 39, 3) := by decide +kernel
theorem dX4_init_93 : decode cX4_init 93 = .ok (.aload_n 0, 1) := by decide +kernel
theorem dX4_init_94 : decode cX4_init 94 = .ok (.iconst 0, 1) := by decide +kernel
theorem dX4_init_95 : decode cX4_init 95 = .ok (.putfield 43, 3) := by decide +kernel
theorem dX4_init_98 : decode cX4_init 98 = .ok (.return_, 1) := by decide +kernel
set_option maxRecDepth 20000 in
theorem ggX4_set_X4_keepState : GoodIn wsX4_set wsX4_keepState := goodIn_r _ [6, 7, 8, 1, 9, 10, 5, 11, 12, 13, 14, 15, 16, 17, 18, 19, 20, 21, 22, 23, 24, 25, 26, 27, 28, 29, 30, 31, 32, 33, 34, 35, 36, 52, 53, 54, 55, 56, 57, 58, 59, 60, 61, 62, 63, 64, 65, 66, 67, 68, 69, 70] (by decide +kernel) (by decide +kernel)
set_option maxRecDepth 20000 in
theorem gX4_set_X4_keepState : GoodIn wsX4_set (wsV RX4 46 RX4 yX4_keepState wsX4_keepState) := goodIn_app (goodIn_of _ (by decide +kernel)) ggX4_set_X4_keepState
set_option maxRecDepth 20000 in
theorem ggX4_set_X2_changeSetting : GoodIn wsX4_set wsX2_changeSetting := goodIn_r _ [40, 17, 41, 5, 42, 43, 44, 45, 46, 59, 60, 61, 62, 63, 64, 65, 66, 67, 68, 69, 70] (by decide +kernel) (by decide +kernel)
set_option maxRecDepth 20000 in
theorem gX4_set_X2_changeSetting : GoodIn wsX4_set (wsV RX4 49 RX2 yX2_changeSetting wsX2_changeSetting) := goodIn_app (goodIn_of _ (by decide +kernel)) ggX4_set_X2_changeSetting
set_option maxRecDepth 20000 in
theorem ggX4_set_X4_recorded : GoodIn wsX4_set wsX4_recorded := goodIn_r _ [50, 8, 51, 29, 30, 31, 32, 52, 53, 54, 55, 56, 57, 58] (by decide +kernel) (by decide +kernel)
set_option maxRecDepth 20000 in
theorem gX4_set_X4_recorded : GoodIn wsX4_set (wsV RX4 53 RX4 yX4_recorded wsX4_recorded) := goodIn_app (goodIn_of _ (by decide +kernel)) ggX4_set_X4_recorded
theorem dX4_set_0 : decode cX4_set 0 = .ok (.aload_n 0, 1) := by decide +kernel
theorem dX4_set_1 : decode cX4_set 1 = .ok (.invokevirtual 46, 3) := by decide +kernel
theorem dX4_set_4 : decode cX4_set 4 = .ok (.aload_n 0, 1) := by decide +kernel
theorem dX4_set_5 : decode cX4_set 5 = .ok (.aload_n 0, 1) := by decide +kernel
theorem dX4_set_6 : decode cX4_set 6 = .ok (.getfield 12, 3) := by decide +kernel
theorem dX4_set_9 : decode cX4_set 9 = .ok (.iload_n 1, 1) := by decide +kernel
theorem dX4_set_10 : decode cX4_set 10 = .ok (.iload_n 2, 1) := by decide +kernel
theorem dX4_set_11 : decode cX4_set 11 = .ok (.invokevirtual 49, 3) := by decide +kernel
theorem dX4_set_14 : decode cX4_set 14 = .ok (.invokevirtual 53, 3) := by decide +kernel
theorem dX4_set_17 : decode cX4_set 17 = .ok (.ireturn, 1) := by decide +kernel
set_option maxRecDepth 20000 in
theorem ggX4_fill_X4_keepState : GoodIn wsX4_fill wsX4_keepState := goodIn_r _ [6, 7, 8, 1, 9, 10, 5, 11, 12, 13, 14, 15, 16, 17, 18, 19, 20, 21, 22, 23, 24, 25, 26, 27, 28, 29, 30, 31, 32, 33, 34, 35, 36, 62, 63, 64, 65, 66, 67, 68, 69, 70, 71, 72, 73, 74, 75, 76, 77, 78, 79, 80] (by decide +kernel) (by decide +kernel)
set_option maxRecDepth 20000 in
theorem gX4_fill_X4_keepState : GoodIn wsX4_fill (wsV RX4 46 RX4 yX4_keepState wsX4_keepState) := goodIn_app (goodIn_of _ (by decide +kernel)) ggX4_fill_X4_keepState
set_option maxRecDepth 20000 in
theorem ggX4_fill_X2_addDrops : GoodIn wsX4_fill wsX2_addDrops := goodIn_r _ [40, 18, 23, 41, 5, 42, 43, 44, 45, 46, 47, 15, 48, 49, 50, 51, 52, 53, 54, 55, 56, 69, 70, 71, 72, 73, 74, 75, 76, 77, 78, 79, 80] (by decide +kernel) (by decide +kernel)
set_option maxRecDepth 20000 in
theorem gX4_fill_X2_addDrops : GoodIn wsX4_fill (wsV RX4 57 RX2 yX2_addDrops wsX2_addDrops) := goodIn_app (goodIn_of _ (by decide +kernel)) ggX4_fill_X2_addDrops
set_option maxRecDepth 20000 in
theorem ggX4_fill_X4_recorded : GoodIn wsX4_fill wsX4_recorded := goodIn_r _ [60, 8, 61, 29, 30, 31, 32, 62, 63, 64, 65, 66, 67, 68] (by decide +kernel) (by decide +kernel)
set_option maxRecDepth 20000 in
theorem gX4_fill_X4_recorded : GoodIn wsX4_fill (wsV RX4 53 RX4 yX4_recorded wsX4_recorded) := goodIn_app (goodIn_of _ (by decide +kernel)) ggX4_fill_X4_recorded
theorem dX4_fill_0 : decode cX4_fill 0 = .ok (.aload_n 0, 1) := by decide +kernel
theorem dX4_fill_1 : decode cX4_fill 1 = .ok (.invokevirtual 46, 3) := by decide +kernel
theorem dX4_fill_4 : decode cX4_fill 4 = .ok (.aload_n 0, 1) := by decide +kernel
theorem dX4_fill_5 : decode cX4_fill 5 = .ok (.aload_n 0, 1) := by decide +kernel
theorem dX4_fill_6 : decode cX4_fill 6 = .ok (.getfield 12, 3) := by decide +kernel
theorem dX4_fill_9 : decode cX4_fill 9 = .ok (.iload_n 1, 1) := by decide +kernel
theorem dX4_fill_10 : decode cX4_fill 10 = .ok (.iload_n 2, 1) := by decide +kernel
theorem dX4_fill_11 : decode cX4_fill 11 = .ok (.iload_n 3, 1) := by decide +kernel
theorem dX4_fill_12 : decode cX4_fill 12 = .ok (.invokevirtual 57, 3) := by decide +kernel
theorem dX4_fill_15 : decode cX4_fill 15 = .ok (.invokevirtual 53, 3) := by decide +kernel
theorem dX4_fill_18 : decode cX4_fill 18 = .ok (.ireturn, 1) := by decide +kernel
set_option maxRecDepth 20000 in
theorem ggX4_thin_X4_keepState : GoodIn wsX4_thin wsX4_keepState := goodIn_r _ [6, 7, 8, 1, 9, 10, 5, 11, 12, 13, 14, 15, 16, 17, 18, 19, 20, 21, 22, 23, 24, 25, 26, 27, 28, 29, 30, 31, 32, 33, 34, 35, 36, 60, 61, 62, 63, 64, 65, 66, 67, 68, 69, 70, 71, 72, 73, 74, 75, 76, 77, 78] (by decide +kernel) (by decide +kernel)
set_option maxRecDepth 20000 in
theorem gX4_thin_X4_keepState : GoodIn wsX4_thin (wsV RX4 46 RX4 yX4_keepState wsX4_keepState) := goodIn_app (goodIn_of _ (by decide +kernel)) ggX4_thin_X4_keepState
set_option maxRecDepth 20000 in
theorem ggX4_thin_X2_thinPot : GoodIn wsX4_thin wsX2_thinPot := goodIn_r _ [40, 18, 19, 23, 41, 5, 42, 43, 44, 45, 15, 46, 47, 48, 49, 50, 51, 52, 53, 54, 67, 68, 69, 70, 71, 72, 73, 74, 75, 76, 77, 78] (by decide +kernel) (by decide +kernel)
set_option maxRecDepth 20000 in
theorem gX4_thin_X2_thinPot : GoodIn wsX4_thin (wsV RX4 61 RX2 yX2_thinPot wsX2_thinPot) := goodIn_app (goodIn_of _ (by decide +kernel)) ggX4_thin_X2_thinPot
set_option maxRecDepth 20000 in
theorem ggX4_thin_X4_recorded : GoodIn wsX4_thin wsX4_recorded := goodIn_r _ [58, 8, 59, 29, 30, 31, 32, 60, 61, 62, 63, 64, 65, 66] (by decide +kernel) (by decide +kernel)
set_option maxRecDepth 20000 in
theorem gX4_thin_X4_recorded : GoodIn wsX4_thin (wsV RX4 53 RX4 yX4_recorded wsX4_recorded) := goodIn_app (goodIn_of _ (by decide +kernel)) ggX4_thin_X4_recorded
theorem dX4_thin_0 : decode cX4_thin 0 = .ok (.aload_n 0, 1) := by decide +kernel
theorem dX4_thin_1 : decode cX4_thin 1 = .ok (.invokevirtual 46, 3) := by decide +kernel
theorem dX4_thin_4 : decode cX4_thin 4 = .ok (.aload_n 0, 1) := by decide +kernel
theorem dX4_thin_5 : decode cX4_thin 5 = .ok (.aload_n 0, 1) := by decide +kernel
theorem dX4_thin_6 : decode cX4_thin 6 = .ok (.getfield 12, 3) := by decide +kernel
theorem dX4_thin_9 : decode cX4_thin 9 = .ok (.iload_n 1, 1) := by decide +kernel
theorem dX4_thin_10 : decode cX4_thin 10 = .ok (.invokevirtual 61, 3) := by decide +kernel
theorem dX4_thin_13 : decode cX4_thin 13 = .ok (.invokevirtual 53, 3) := by decide +kernel
theorem dX4_thin_16 : decode cX4_thin 16 = .ok (.ireturn, 1) := by decide +kernel
set_option maxRecDepth 20000 in
theorem ggX4_pour_X4_keepState : GoodIn wsX4_pour wsX4_keepState := goodIn_r _ [6, 7, 8, 1, 9, 10, 5, 11, 12, 13, 14, 15, 16, 17, 18, 19, 20, 21, 22, 23, 24, 25, 26, 27, 28, 29, 30, 31, 32, 33, 34, 35, 36, 80, 81, 82, 83, 84, 85, 86, 87, 88, 89, 90, 91, 92, 93, 94, 95, 96, 97, 98] (by decide +kernel) (by decide +kernel)
set_option maxRecDepth 20000 in
theorem gX4_pour_X4_keepState : GoodIn wsX4_pour (wsV RX4 46 RX4 yX4_keepState wsX4_keepState) := goodIn_app (goodIn_of _ (by decide +kernel)) ggX4_pour_X4_keepState
set_option maxRecDepth 20000 in
theorem ggX4_pour_X2_pourOver : GoodIn wsX4_pour wsX2_pourOver := goodIn_r _ [40, 41, 5, 42, 43, 44, 45, 46, 47, 15, 48, 18, 49, 50, 51, 52, 53, 54, 55, 56, 57, 58, 59, 60, 61, 62, 63, 64, 65, 66, 67, 68, 69, 70, 71, 72, 73, 74, 87, 88, 89, 90, 91, 92, 93, 94, 95, 96, 97, 98] (by decide +kernel) (by decide +kernel)
set_option maxRecDepth 20000 in
theorem gX4_pour_X2_pourOver : GoodIn wsX4_pour (wsV RX4 64 RX2 yX2_pourOver wsX2_pourOver) := goodIn_app (goodIn_of _ (by decide +kernel)) ggX4_pour_X2_pourOver
set_option maxRecDepth 20000 in
theorem ggX4_pour_X4_recorded : GoodIn wsX4_pour wsX4_recorded := goodIn_r _ [78, 8, 79, 29, 30, 31, 32, 80, 81, 82, 83, 84, 85, 86] (by decide +kernel) (by decide +kernel)
set_option maxRecDepth 20000 in
theorem gX4_pour_X4_recorded : GoodIn wsX4_pour (wsV RX4 53 RX4 yX4_recorded wsX4_recorded) := goodIn_app (goodIn_of _ (by decide +kernel)) ggX4_pour_X4_recorded
theorem dX4_pour_0 : decode cX4_pour 0 = .ok (.aload_n 0, 1) := by decide +kernel
theorem dX4_pour_1 : decode cX4_pour 1 = .ok (.invokevirtual 46, 3) := by decide +kernel
theorem dX4_pour_4 : decode cX4_pour 4 = .ok (.aload_n 0, 1) := by decide +kernel
theorem dX4_pour_5 : decode cX4_pour 5 = .ok (.aload_n 0, 1) := by decide +kernel
theorem dX4_pour_6 : decode cX4_pour 6 = .ok (.getfield 12, 3) := by decide +kernel
theorem dX4_pour_9 : decode cX4_pour 9 = .ok (.iload_n 1, 1) := by decide +kernel
theorem dX4_pour_10 : decode cX4_pour 10 = .ok (.iload_n 2, 1) := by decide +kernel
theorem dX4_pour_11 : decode cX4_pour 11 = .ok (.iload_n 3, 1) := by decide +kernel
theorem dX4_pour_12 : decode cX4_pour 12 = .ok (.invokevirtual 64, 3) := by decide +kernel
theorem dX4_pour_15 : decode cX4_pour 15 = .ok (.invokevirtual 53, 3) := by decide +kernel
theorem dX4_pour_18 : decode cX4_pour 18 = .ok (.ireturn, 1) := by decide +kernel
set_option maxRecDepth 20000 in
theorem ggX4_empty_X4_keepState : GoodIn wsX4_empty wsX4_keepState := goodIn_r _ [6, 7, 8, 1, 9, 10, 5, 11, 12, 13, 14, 15, 16, 17, 18, 19, 20, 21, 22, 23, 24, 25, 26, 27, 28, 29, 30, 31, 32, 33, 34, 35, 36, 58, 59, 60, 61, 62, 63, 64, 65, 66, 67, 68, 69, 70, 71, 72, 73, 74, 75, 76] (by decide +kernel) (by decide +kernel)
set_option maxRecDepth 20000 in
theorem gX4_empty_X4_keepState : GoodIn wsX4_empty (wsV RX4 46 RX4 yX4_keepState wsX4_keepState) := goodIn_app (goodIn_of _ (by decide +kernel)) ggX4_empty_X4_keepState
set_option maxRecDepth 20000 in
theorem ggX4_empty_X2_emptyPot : GoodIn wsX4_empty wsX2_emptyPot := goodIn_r _ [40, 41, 5, 42, 43, 44, 45, 15, 46, 18, 25, 47, 48, 49, 50, 51, 52, 65, 66, 67, 68, 69, 70, 71, 72, 73, 74, 75, 76] (by decide +kernel) (by decide +kernel)
set_option maxRecDepth 20000 in
theorem gX4_empty_X2_emptyPot : GoodIn wsX4_empty (wsV RX4 67 RX2 yX2_emptyPot wsX2_emptyPot) := goodIn_app (goodIn_of _ (by decide +kernel)) ggX4_empty_X2_emptyPot
set_option maxRecDepth 20000 in
theorem ggX4_empty_X4_recorded : GoodIn wsX4_empty wsX4_recorded := goodIn_r _ [56, 8, 57, 29, 30, 31, 32, 58, 59, 60, 61, 62, 63, 64] (by decide +kernel) (by decide +kernel)
set_option maxRecDepth 20000 in
theorem gX4_empty_X4_recorded : GoodIn wsX4_empty (wsV RX4 53 RX4 yX4_recorded wsX4_recorded) := goodIn_app (goodIn_of _ (by decide +kernel)) ggX4_empty_X4_recorded
theorem dX4_empty_0 : decode cX4_empty 0 = .ok (.aload_n 0, 1) := by decide +kernel
theorem dX4_empty_1 : decode cX4_empty 1 = .ok (.invokevirtual 46, 3) := by decide +kernel
theorem dX4_empty_4 : decode cX4_empty 4 = .ok (.aload_n 0, 1) := by decide +kernel
theorem dX4_empty_5 : decode cX4_empty 5 = .ok (.aload_n 0, 1) := by decide +kernel
theorem dX4_empty_6 : decode cX4_empty 6 = .ok (.getfield 12, 3) := by decide +kernel
theorem dX4_empty_9 : decode cX4_empty 9 = .ok (.iload_n 1, 1) := by decide +kernel
theorem dX4_empty_10 : decode cX4_empty 10 = .ok (.invokevirtual 67, 3) := by decide +kernel
theorem dX4_empty_13 : decode cX4_empty 13 = .ok (.invokevirtual 53, 3) := by decide +kernel
theorem dX4_empty_16 : decode cX4_empty 16 = .ok (.ireturn, 1) := by decide +kernel
set_option maxRecDepth 20000 in
theorem ggX4_dip_X4_keepState : GoodIn wsX4_dip wsX4_keepState := goodIn_r _ [6, 7, 8, 1, 9, 10, 5, 11, 12, 13, 14, 15, 16, 17, 18, 19, 20, 21, 22, 23, 24, 25, 26, 27, 28, 29, 30, 31, 32, 33, 34, 35, 36, 80, 81, 82, 83, 84, 85, 86, 87, 88, 89, 90, 91, 92, 93, 94, 95, 96, 97, 98] (by decide +kernel) (by decide +kernel)
set_option maxRecDepth 20000 in
theorem gX4_dip_X4_keepState : GoodIn wsX4_dip (wsV RX4 46 RX4 yX4_keepState wsX4_keepState) := goodIn_app (goodIn_of _ (by decide +kernel)) ggX4_dip_X4_keepState
set_option maxRecDepth 20000 in
theorem ggX4_dip_X2_dipBrush : GoodIn wsX4_dip wsX2_dipBrush := goodIn_r _ [40, 41, 5, 42, 43, 44, 45, 46, 47, 15, 48, 18, 49, 50, 51, 52, 53, 54, 55, 56, 57, 58, 59, 60, 61, 62, 63, 64, 65, 66, 67, 68, 69, 70, 71, 72, 73, 74, 87, 88, 89, 90, 91, 92, 93, 94, 95, 96, 97, 98] (by decide +kernel) (by decide +kernel)
set_option maxRecDepth 20000 in
theorem gX4_dip_X2_dipBrush : GoodIn wsX4_dip (wsV RX4 70 RX2 yX2_dipBrush wsX2_dipBrush) := goodIn_app (goodIn_of _ (by decide +kernel)) ggX4_dip_X2_dipBrush
set_option maxRecDepth 20000 in
theorem ggX4_dip_X4_recorded : GoodIn wsX4_dip wsX4_recorded := goodIn_r _ [78, 8, 79, 29, 30, 31, 32, 80, 81, 82, 83, 84, 85, 86] (by decide +kernel) (by decide +kernel)
set_option maxRecDepth 20000 in
theorem gX4_dip_X4_recorded : GoodIn wsX4_dip (wsV RX4 53 RX4 yX4_recorded wsX4_recorded) := goodIn_app (goodIn_of _ (by decide +kernel)) ggX4_dip_X4_recorded
theorem dX4_dip_0 : decode cX4_dip 0 = .ok (.aload_n 0, 1) := by decide +kernel
theorem dX4_dip_1 : decode cX4_dip 1 = .ok (.invokevirtual 46, 3) := by decide +kernel
theorem dX4_dip_4 : decode cX4_dip 4 = .ok (.aload_n 0, 1) := by decide +kernel
theorem dX4_dip_5 : decode cX4_dip 5 = .ok (.aload_n 0, 1) := by decide +kernel
theorem dX4_dip_6 : decode cX4_dip 6 = .ok (.getfield 12, 3) := by decide +kernel
theorem dX4_dip_9 : decode cX4_dip 9 = .ok (.iload_n 1, 1) := by decide +kernel
theorem dX4_dip_10 : decode cX4_dip 10 = .ok (.iload_n 2, 1) := by decide +kernel
theorem dX4_dip_11 : decode cX4_dip 11 = .ok (.invokevirtual 70, 3) := by decide +kernel
theorem dX4_dip_14 : decode cX4_dip 14 = .ok (.invokevirtual 53, 3) := by decide +kernel
theorem dX4_dip_17 : decode cX4_dip 17 = .ok (.ireturn, 1) := by decide +kernel
set_option maxRecDepth 20000 in
theorem ggX4_paint_X4_keepState : GoodIn wsX4_paint wsX4_keepState := goodIn_r _ [6, 7, 8, 1, 9, 10, 5, 11, 12, 13, 14, 15, 16, 17, 18, 19, 20, 21, 22, 23, 24, 25, 26, 27, 28, 29, 30, 31, 32, 33, 34, 35, 36, 89, 90, 91, 92, 93, 94, 95, 96, 97, 98, 99, 100, 101, 102, 103, 104, 105, 106, 107] (by decide +kernel) (by decide +kernel)
set_option maxRecDepth 20000 in
theorem gX4_paint_X4_keepState : GoodIn wsX4_paint (wsV RX4 46 RX4 yX4_keepState wsX4_keepState) := goodIn_app (goodIn_of _ (by decide +kernel)) ggX4_paint_X4_keepState
set_option maxRecDepth 20000 in
theorem ggX4_paint_X2_paintPanel : GoodIn wsX4_paint wsX2_paintPanel := goodIn_r _ [40, 17, 21, 22, 24, 41, 5, 42, 43, 44, 45, 46, 47, 15, 48, 18, 49, 50, 51, 52, 53, 54, 55, 56, 57, 58, 59, 60, 61, 62, 63, 64, 65, 66, 67, 68, 69, 70, 71, 72, 73, 74, 75, 76, 77, 78, 79, 80, 20, 81, 82, 31, 83, 96, 97, 98, 99, 100, 101, 102, 103, 104, 105, 106, 107] (by decide +kernel) (by decide +kernel)
set_option maxRecDepth 20000 in
theorem gX4_paint_X2_paintPanel : GoodIn wsX4_paint (wsV RX4 73 RX2 yX2_paintPanel wsX2_paintPanel) := goodIn_app (goodIn_of _ (by decide +kernel)) ggX4_paint_X2_paintPanel
set_option maxRecDepth 20000 in
theorem ggX4_paint_X4_recorded : GoodIn wsX4_paint wsX4_recorded := goodIn_r _ [87, 8, 88, 29, 30, 31, 32, 89, 90, 91, 92, 93, 94, 95] (by decide +kernel) (by decide +kernel)
set_option maxRecDepth 20000 in
theorem gX4_paint_X4_recorded : GoodIn wsX4_paint (wsV RX4 53 RX4 yX4_recorded wsX4_recorded) := goodIn_app (goodIn_of _ (by decide +kernel)) ggX4_paint_X4_recorded
theorem dX4_paint_0 : decode cX4_paint 0 = .ok (.aload_n 0, 1) := by decide +kernel
theorem dX4_paint_1 : decode cX4_paint 1 = .ok (.invokevirtual 46, 3) := by decide +kernel
theorem dX4_paint_4 : decode cX4_paint 4 = .ok (.aload_n 0, 1) := by decide +kernel
theorem dX4_paint_5 : decode cX4_paint 5 = .ok (.aload_n 0, 1) := by decide +kernel
theorem dX4_paint_6 : decode cX4_paint 6 = .ok (.getfield 12, 3) := by decide +kernel
theorem dX4_paint_9 : decode cX4_paint 9 = .ok (.iload_n 1, 1) := by decide +kernel
theorem dX4_paint_10 : decode cX4_paint 10 = .ok (.invokevirtual 73, 3) := by decide +kernel
theorem dX4_paint_13 : decode cX4_paint 13 = .ok (.invokevirtual 53, 3) := by decide +kernel
theorem dX4_paint_16 : decode cX4_paint 16 = .ok (.ireturn, 1) := by decide +kernel
set_option maxRecDepth 20000 in
theorem ggX4_rinse_X4_keepState : GoodIn wsX4_rinse wsX4_keepState := goodIn_r _ [6, 7, 8, 1, 9, 10, 5, 11, 12, 13, 14, 15, 16, 17, 18, 19, 20, 21, 22, 23, 24, 25, 26, 27, 28, 29, 30, 31, 32, 33, 34, 35, 36, 56, 57, 58, 59, 60, 61, 62, 63, 64, 65, 66, 67, 68, 69, 70, 71, 72, 73, 74] (by decide +kernel) (by decide +kernel)
set_option maxRecDepth 20000 in
theorem gX4_rinse_X4_keepState : GoodIn wsX4_rinse (wsV RX4 46 RX4 yX4_keepState wsX4_keepState) := goodIn_app (goodIn_of _ (by decide +kernel)) ggX4_rinse_X4_keepState
set_option maxRecDepth 20000 in
theorem ggX4_rinse_X2_rinseBrush : GoodIn wsX4_rinse wsX2_rinseBrush := goodIn_r _ [40, 26, 41, 42, 43, 15, 44, 18, 25, 45, 46, 47, 48, 49, 5, 50, 63, 64, 65, 66, 67, 68, 69, 70, 71, 72, 73, 74] (by decide +kernel) (by decide +kernel)
set_option maxRecDepth 20000 in
theorem gX4_rinse_X2_rinseBrush : GoodIn wsX4_rinse (wsV RX4 76 RX2 yX2_rinseBrush wsX2_rinseBrush) := goodIn_app (goodIn_of _ (by decide +kernel)) ggX4_rinse_X2_rinseBrush
set_option maxRecDepth 20000 in
theorem ggX4_rinse_X4_recorded : GoodIn wsX4_rinse wsX4_recorded := goodIn_r _ [54, 8, 55, 29, 30, 31, 32, 56, 57, 58, 59, 60, 61, 62] (by decide +kernel) (by decide +kernel)
set_option maxRecDepth 20000 in
theorem gX4_rinse_X4_recorded : GoodIn wsX4_rinse (wsV RX4 53 RX4 yX4_recorded wsX4_recorded) := goodIn_app (goodIn_of _ (by decide +kernel)) ggX4_rinse_X4_recorded
theorem dX4_rinse_0 : decode cX4_rinse 0 = .ok (.aload_n 0, 1) := by decide +kernel
theorem dX4_rinse_1 : decode cX4_rinse 1 = .ok (.invokevirtual 46, 3) := by decide +kernel
theorem dX4_rinse_4 : decode cX4_rinse 4 = .ok (.aload_n 0, 1) := by decide +kernel
theorem dX4_rinse_5 : decode cX4_rinse 5 = .ok (.aload_n 0, 1) := by decide +kernel
theorem dX4_rinse_6 : decode cX4_rinse 6 = .ok (.getfield 12, 3) := by decide +kernel
theorem dX4_rinse_9 : decode cX4_rinse 9 = .ok (.invokevirtual 76, 3) := by decide +kernel
theorem dX4_rinse_12 : decode cX4_rinse 12 = .ok (.invokevirtual 53, 3) := by decide +kernel
theorem dX4_rinse_15 : decode cX4_rinse 15 = .ok (.ireturn, 1) := by decide +kernel
set_option maxRecDepth 20000 in
theorem ggX4_want_X4_keepState : GoodIn wsX4_want wsX4_keepState := goodIn_r _ [6, 7, 8, 1, 9, 10, 5, 11, 12, 13, 14, 15, 16, 17, 18, 19, 20, 21, 22, 23, 24, 25, 26, 27, 28, 29, 30, 31, 32, 33, 34, 35, 36, 80, 81, 82, 83, 84, 85, 86, 87, 88, 89, 90, 91, 92, 93, 94, 95, 96, 97, 98] (by decide +kernel) (by decide +kernel)
set_option maxRecDepth 20000 in
theorem gX4_want_X4_keepState : GoodIn wsX4_want (wsV RX4 46 RX4 yX4_keepState wsX4_keepState) := goodIn_app (goodIn_of _ (by decide +kernel)) ggX4_want_X4_keepState
set_option maxRecDepth 20000 in
theorem ggX4_want_X2_wantShade : GoodIn wsX4_want wsX2_wantShade := goodIn_r _ [40, 20, 41, 5, 42, 43, 44, 15, 45, 46, 47, 48, 49, 50, 51, 52, 53, 54, 55, 56, 57, 17, 58, 59, 60, 61, 22, 62, 63, 64, 65, 66, 67, 21, 68, 69, 70, 71, 72, 73, 31, 74, 87, 88, 89, 90, 91, 92, 93, 94, 95, 96, 97, 98] (by decide +kernel) (by decide +kernel)
set_option maxRecDepth 20000 in
theorem gX4_want_X2_wantShade : GoodIn wsX4_want (wsV RX4 80 RX2 yX2_wantShade wsX2_wantShade) := goodIn_app (goodIn_of _ (by decide +kernel)) ggX4_want_X2_wantShade
set_option maxRecDepth 20000 in
theorem ggX4_want_X4_recorded : GoodIn wsX4_want wsX4_recorded := goodIn_r _ [78, 8, 79, 29, 30, 31, 32, 80, 81, 82, 83, 84, 85, 86] (by decide +kernel) (by decide +kernel)
set_option maxRecDepth 20000 in
theorem gX4_want_X4_recorded : GoodIn wsX4_want (wsV RX4 53 RX4 yX4_recorded wsX4_recorded) := goodIn_app (goodIn_of _ (by decide +kernel)) ggX4_want_X4_recorded
theorem dX4_want_0 : decode cX4_want 0 = .ok (.aload_n 0, 1) := by decide +kernel
theorem dX4_want_1 : decode cX4_want 1 = .ok (.invokevirtual 46, 3) := by decide +kernel
theorem dX4_want_4 : decode cX4_want 4 = .ok (.aload_n 0, 1) := by decide +kernel
theorem dX4_want_5 : decode cX4_want 5 = .ok (.aload_n 0, 1) := by decide +kernel
theorem dX4_want_6 : decode cX4_want 6 = .ok (.getfield 12, 3) := by decide +kernel
theorem dX4_want_9 : decode cX4_want 9 = .ok (.iload_n 1, 1) := by decide +kernel
theorem dX4_want_10 : decode cX4_want 10 = .ok (.iload_n 2, 1) := by decide +kernel
theorem dX4_want_11 : decode cX4_want 11 = .ok (.iload_n 3, 1) := by decide +kernel
theorem dX4_want_12 : decode cX4_want 12 = .ok (.iload 4, 2) := by decide +kernel
theorem dX4_want_14 : decode cX4_want 14 = .ok (.invokevirtual 80, 3) := by decide +kernel
theorem dX4_want_17 : decode cX4_want 17 = .ok (.invokevirtual 53, 3) := by decide +kernel
theorem dX4_want_20 : decode cX4_want 20 = .ok (.ireturn, 1) := by decide +kernel
set_option maxRecDepth 20000 in
theorem ggX4_pot_X4_isWithin : GoodIn wsX4_pot wsX4_isWithin := goodIn_r _ [5] (by decide +kernel) (by decide +kernel)
set_option maxRecDepth 20000 in
theorem gX4_pot_X4_isWithin : GoodIn wsX4_pot (va_wsS RX4 105 yX4_isWithin wsX4_isWithin) := goodIn_app (goodIn_of _ (by decide +kernel)) ggX4_pot_X4_isWithin
set_option maxRecDepth 20000 in
theorem ggX4_pot_X2_timesThinned : GoodIn wsX4_pot wsX2_timesThinned := goodIn_r _ [10, 11, 12, 4, 13, 46, 47, 48, 49, 50, 51, 52, 53, 54, 55, 56, 57] (by decide +kernel) (by decide +kernel)
set_option maxRecDepth 20000 in
theorem gX4_pot_X2_timesThinned : GoodIn wsX4_pot (wsV RX4 109 RX2 yX2_timesThinned wsX2_timesThinned) := goodIn_app (goodIn_of _ (by decide +kernel)) ggX4_pot_X2_timesThinned
set_option maxRecDepth 20000 in
theorem ggX4_pot_X2_aboutPaint : GoodIn wsX4_pot wsX2_aboutPaint := goodIn_r _ [17, 18, 4, 19, 20, 21, 22, 9, 23, 24, 12, 13, 25, 26, 27, 28, 29, 30, 31, 32, 33, 34, 35, 36, 37, 38, 46, 47, 48, 49, 50, 51, 52, 53, 54, 55, 56, 57] (by decide +kernel) (by decide +kernel)
set_option maxRecDepth 20000 in
theorem gX4_pot_X2_aboutPaint : GoodIn wsX4_pot (wsV RX4 112 RX2 yX2_aboutPaint wsX2_aboutPaint) := goodIn_app (goodIn_of _ (by decide +kernel)) ggX4_pot_X2_aboutPaint
theorem dX4_pot_0 : decode cX4_pot 0 = .ok (.iload_n 1, 1) := by decide +kernel
theorem dX4_pot_1 : decode cX4_pot 1 = .ok (.bipush 8, 2) := by decide +kernel
theorem dX4_pot_3 : decode cX4_pot 3 = .ok (.invokestatic 105, 3) := by decide +kernel
theorem dX4_pot_6 : decode cX4_pot 6 = .ok (.ifCond .ne 5, 3) := by decide +kernel
theorem dX4_pot_9 : decode cX4_pot 9 = .ok (.iconst (-1), 1) := by decide +kernel
theorem dX4_pot_10 : decode cX4_pot 10 = .ok (.ireturn, 1) := by decide +kernel
theorem dX4_pot_11 : decode cX4_pot 11 = .ok (.iload_n 2, 1) := by decide +kernel
theorem dX4_pot_12 : decode cX4_pot 12 = .ok (.bipush 8, 2) := by decide +kernel
theorem dX4_pot_14 : decode cX4_pot 14 = .ok (.if_icmp .ne 12, 3) := by decide +kernel
theorem dX4_pot_17 : decode cX4_pot 17 = .ok (.aload_n 0, 1) := by decide +kernel
theorem dX4_pot_18 : decode cX4_pot 18 = .ok (.getfield 12, 3) := by decide +kernel
theorem dX4_pot_21 : decode cX4_pot 21 = .ok (.iload_n 1, 1) := by decide +kernel
theorem dX4_pot_22 : decode cX4_pot 22 = .ok (.invokevirtual 109, 3) := by decide +kernel
theorem dX4_pot_25 : decode cX4_pot 25 = .ok (.ireturn, 1) := by decide +kernel
theorem dX4_pot_26 : decode cX4_pot 26 = .ok (.aload_n 0, 1) := by decide +kernel
theorem dX4_pot_27 : decode cX4_pot 27 = .ok (.getfield 12, 3) := by decide +kernel
theorem dX4_pot_30 : decode cX4_pot 30 = .ok (.iload_n 1, 1) := by decide +kernel
theorem dX4_pot_31 : decode cX4_pot 31 = .ok (.iload_n 2, 1) := by decide +kernel
theorem dX4_pot_32 : decode cX4_pot 32 = .ok (.invokevirtual 112, 3) := by decide +kernel
theorem dX4_pot_35 : decode cX4_pot 35 = .ok (.ireturn, 1) := by decide +kernel
set_option maxRecDepth 20000 in
theorem ggX4_brush_X2_aboutPaint : GoodIn wsX4_brush wsX2_aboutPaint := goodIn_r _ [6, 7, 8, 9, 10, 11, 12, 5, 13, 14, 15, 16, 17, 18, 19, 20, 21, 22, 23, 24, 25, 26, 27, 28, 29, 30, 38, 39, 40, 41, 42, 43, 44, 45, 46, 47, 48, 49] (by decide +kernel) (by decide +kernel)
set_option maxRecDepth 20000 in
theorem gX4_brush_X2_aboutPaint : GoodIn wsX4_brush (wsV RX4 112 RX2 yX2_aboutPaint wsX2_aboutPaint) := goodIn_app (goodIn_of _ (by decide +kernel)) ggX4_brush_X2_aboutPaint
theorem dX4_brush_0 : decode cX4_brush 0 = .ok (.aload_n 0, 1) := by decide +kernel
theorem dX4_brush_1 : decode cX4_brush 1 = .ok (.getfield 12, 3) := by decide +kernel
theorem dX4_brush_4 : decode cX4_brush 4 = .ok (.bipush 8, 2) := by decide +kernel
theorem dX4_brush_6 : decode cX4_brush 6 = .ok (.iload_n 1, 1) := by decide +kernel
theorem dX4_brush_7 : decode cX4_brush 7 = .ok (.invokevirtual 112, 3) := by decide +kernel
theorem dX4_brush_10 : decode cX4_brush 10 = .ok (.ireturn, 1) := by decide +kernel
set_option maxRecDepth 20000 in
theorem ggX4_panel_X4_isWithin : GoodIn wsX4_panel wsX4_isWithin := goodIn_r _ [5] (by decide +kernel) (by decide +kernel)
set_option maxRecDepth 20000 in
theorem gX4_panel_X4_isWithin : GoodIn wsX4_panel (va_wsS RX4 105 yX4_isWithin wsX4_isWithin) := goodIn_app (goodIn_of _ (by decide +kernel)) ggX4_panel_X4_isWithin
set_option maxRecDepth 20000 in
theorem ggX4_panel_X2_aboutPanel : GoodIn wsX4_panel wsX2_aboutPanel := goodIn_r _ [10, 11, 12, 13, 14, 4, 15, 16, 17, 18, 19, 20, 9, 21, 22, 23, 24, 25, 26, 27, 28, 29, 30, 31, 32, 33, 34, 35, 36, 37, 38, 46, 47, 48, 49, 50, 51, 52, 53, 54, 55, 56, 57] (by decide +kernel) (by decide +kernel)
set_option maxRecDepth 20000 in
theorem gX4_panel_X2_aboutPanel : GoodIn wsX4_panel (wsV RX4 115 RX2 yX2_aboutPanel wsX2_aboutPanel) := goodIn_app (goodIn_of _ (by decide +kernel)) ggX4_panel_X2_aboutPanel
theorem dX4_panel_0 : decode cX4_panel 0 = .ok (.iload_n 1, 1) := by decide +kernel
theorem dX4_panel_1 : decode cX4_panel 1 = .ok (.bipush 6, 2) := by decide +kernel
theorem dX4_panel_3 : decode cX4_panel 3 = .ok (.invokestatic 105, 3) := by decide +kernel
theorem dX4_panel_6 : decode cX4_panel 6 = .ok (.ifCond .ne 5, 3) := by decide +kernel
theorem dX4_panel_9 : decode cX4_panel 9 = .ok (.iconst (-1), 1) := by decide +kernel
theorem dX4_panel_10 : decode cX4_panel 10 = .ok (.ireturn, 1) := by decide +kernel
theorem dX4_panel_11 : decode cX4_panel 11 = .ok (.aload_n 0, 1) := by decide +kernel
theorem dX4_panel_12 : decode cX4_panel 12 = .ok (.getfield 12, 3) := by decide +kernel
theorem dX4_panel_15 : decode cX4_panel 15 = .ok (.iload_n 1, 1) := by decide +kernel
theorem dX4_panel_16 : decode cX4_panel 16 = .ok (.iload_n 2, 1) := by decide +kernel
theorem dX4_panel_17 : decode cX4_panel 17 = .ok (.invokevirtual 115, 3) := by decide +kernel
theorem dX4_panel_20 : decode cX4_panel 20 = .ok (.ireturn, 1) := by decide +kernel
set_option maxRecDepth 20000 in
theorem ggX4_count_X1_length : GoodIn wsX4_count wsX1_length := goodIn_r _ [8, 9, 74, 75, 76, 77] (by decide +kernel) (by decide +kernel)
set_option maxRecDepth 20000 in
theorem gX4_count_X1_length : GoodIn wsX4_count (wsV RX4 118 RX1 yX1_length wsX1_length) := goodIn_app (goodIn_of _ (by decide +kernel)) ggX4_count_X1_length
set_option maxRecDepth 20000 in
theorem ggX4_count_X2_account : GoodIn wsX4_count wsX2_account := goodIn_r _ [14, 15, 16, 17, 18, 19, 20, 21, 22, 23, 24, 25, 13, 26, 27, 28, 29, 30, 31, 32, 33, 34, 35, 36, 37, 38, 39, 40, 41, 42, 43, 44, 45, 46, 47, 48, 49, 50, 51, 52, 53, 54, 55, 56, 57, 58, 59, 60, 61, 62, 63, 64, 65, 66, 78, 79, 80, 81, 82, 83, 84, 85, 86, 87, 88, 89] (by decide +kernel) (by decide +kernel)
set_option maxRecDepth 20000 in
theorem gX4_count_X2_account : GoodIn wsX4_count (wsV RX4 121 RX2 yX2_account wsX2_account) := goodIn_app (goodIn_of _ (by decide +kernel)) ggX4_count_X2_account
theorem dX4_count_0 : decode cX4_count 0 = .ok (.iload_n 1, 1) := by decide +kernel
theorem dX4_count_1 : decode cX4_count 1 = .ok (.bipush 10, 2) := by decide +kernel
theorem dX4_count_3 : decode cX4_count 3 = .ok (.if_icmp .ne 11, 3) := by decide +kernel
theorem dX4_count_6 : decode cX4_count 6 = .ok (.aload_n 0, 1) := by decide +kernel
theorem dX4_count_7 : decode cX4_count 7 = .ok (.getfield 28, 3) := by decide +kernel
theorem dX4_count_10 : decode cX4_count 10 = .ok (.invokevirtual 118, 3) := by decide +kernel
theorem dX4_count_13 : decode cX4_count 13 = .ok (.ireturn, 1) := by decide +kernel
theorem dX4_count_14 : decode cX4_count 14 = .ok (.iload_n 1, 1) := by decide +kernel
theorem dX4_count_15 : decode cX4_count 15 = .ok (.bipush 11, 2) := by decide +kernel
theorem dX4_count_17 : decode cX4_count 17 = .ok (.if_icmp .ne 8, 3) := by decide +kernel
theorem dX4_count_20 : decode cX4_count 20 = .ok (.aload_n 0, 1) := by decide +kernel
theorem dX4_count_21 : decode cX4_count 21 = .ok (.getfield 43, 3) := by decide +kernel
theorem dX4_count_24 : decode cX4_count 24 = .ok (.ireturn, 1) := by decide +kernel
theorem dX4_count_25 : decode cX4_count 25 = .ok (.aload_n 0, 1) := by decide +kernel
theorem dX4_count_26 : decode cX4_count 26 = .ok (.getfield 12, 3) := by decide +kernel
theorem dX4_count_29 : decode cX4_count 29 = .ok (.iload_n 1, 1) := by decide +kernel
theorem dX4_count_30 : decode cX4_count 30 = .ok (.invokevirtual 121, 3) := by decide +kernel
theorem dX4_count_33 : decode cX4_count 33 = .ok (.ireturn, 1) := by decide +kernel
set_option maxRecDepth 20000 in
theorem ggX4_nearest_X4_isWithin : GoodIn wsX4_nearest wsX4_isWithin := goodIn_r _ [6] (by decide +kernel) (by decide +kernel)
set_option maxRecDepth 20000 in
theorem gX4_nearest_X4_isWithin : GoodIn wsX4_nearest (va_wsS RX4 105 yX4_isWithin wsX4_isWithin) := goodIn_app (goodIn_of _ (by decide +kernel)) ggX4_nearest_X4_isWithin
set_option maxRecDepth 20000 in
theorem ggX4_nearest_X0_nearestPot : GoodIn wsX4_nearest wsX0_nearestPot := goodIn_r _ [11, 12, 13, 14, 15, 16, 17, 18, 19, 20, 21, 22, 23, 24, 25, 26, 27, 28, 29, 30, 31, 5, 32, 33, 34, 35, 36, 37, 38, 39, 40, 41, 42, 43, 52, 53, 54, 55, 56, 57, 58, 59, 60, 61, 62, 63, 64, 65, 66, 67, 68, 69] (by decide +kernel) (by decide +kernel)
set_option maxRecDepth 20000 in
theorem gX4_nearest_X0_nearestPot : GoodIn wsX4_nearest (wsV RX4 124 RX0 yX0_nearestPot wsX0_nearestPot) := goodIn_app (goodIn_of _ (by decide +kernel)) ggX4_nearest_X0_nearestPot
set_option maxRecDepth 20000 in
theorem ggX4_nearest_X2_distanceOfPaint : GoodIn wsX4_nearest wsX2_distanceOfPaint := goodIn_r _ [26, 27, 28, 29, 16, 30, 22, 31, 5, 32, 18, 19, 20, 21, 33, 34, 35, 36, 37, 38, 39, 40, 41, 42, 43, 58, 59, 60, 61, 62, 63, 64, 65, 66, 67, 68, 69] (by decide +kernel) (by decide +kernel)
set_option maxRecDepth 20000 in
theorem gX4_nearest_X2_distanceOfPaint : GoodIn wsX4_nearest (wsV RX4 127 RX2 yX2_distanceOfPaint wsX2_distanceOfPaint) := goodIn_app (goodIn_of _ (by decide +kernel)) ggX4_nearest_X2_distanceOfPaint
theorem dX4_nearest_0 : decode cX4_nearest 0 = .ok (.iload_n 1, 1) := by decide +kernel
theorem dX4_nearest_1 : decode cX4_nearest 1 = .ok (.bipush 6, 2) := by decide +kernel
theorem dX4_nearest_3 : decode cX4_nearest 3 = .ok (.invokestatic 105, 3) := by decide +kernel
theorem dX4_nearest_6 : decode cX4_nearest 6 = .ok (.ifCond .ne 5, 3) := by decide +kernel
theorem dX4_nearest_9 : decode cX4_nearest 9 = .ok (.iconst (-1), 1) := by decide +kernel
theorem dX4_nearest_10 : decode cX4_nearest 10 = .ok (.ireturn, 1) := by decide +kernel
theorem dX4_nearest_11 : decode cX4_nearest 11 = .ok (.iload_n 2, 1) := by decide +kernel
theorem dX4_nearest_12 : decode cX4_nearest 12 = .ok (.iconst 2, 1) := by decide +kernel
theorem dX4_nearest_13 : decode cX4_nearest 13 = .ok (.invokestatic 105, 3) := by decide +kernel
theorem dX4_nearest_16 : decode cX4_nearest 16 = .ok (.ifCond .ne 6, 3) := by decide +kernel
theorem dX4_nearest_19 : decode cX4_nearest 19 = .ok (.bipush (-2), 2) := by decide +kernel
theorem dX4_nearest_21 : decode cX4_nearest 21 = .ok (.ireturn, 1) := by decide +kernel
theorem dX4_nearest_22 : decode cX4_nearest 22 = .ok (.aload_n 0, 1) := by decide +kernel
theorem dX4_nearest_23 : decode cX4_nearest 23 = .ok (.getfield 21, 3) := by decide +kernel
theorem dX4_nearest_26 : decode cX4_nearest 26 = .ok (.iload_n 1, 1) := by decide +kernel
theorem dX4_nearest_27 : decode cX4_nearest 27 = .ok (.invokevirtual 124, 3) := by decide +kernel
theorem dX4_nearest_30 : decode cX4_nearest 30 = .ok (.istore_n 3, 1) := by decide +kernel
theorem dX4_nearest_31 : decode cX4_nearest 31 = .ok (.iload_n 3, 1) := by decide +kernel
theorem dX4_nearest_32 : decode cX4_nearest 32 = .ok (.bipush (-6), 2) := by decide +kernel
theorem dX4_nearest_34 : decode cX4_nearest 34 = .ok (.if_icmp .eq 7, 3) := by decide +kernel
theorem dX4_nearest_37 : decode cX4_nearest 37 = .ok (.iload_n 2, 1) := by decide +kernel
theorem dX4_nearest_38 : decode cX4_nearest 38 = .ok (.ifCond .ne 5, 3) := by decide +kernel
theorem dX4_nearest_41 : decode cX4_nearest 41 = .ok (.iload_n 3, 1) := by decide +kernel
theorem dX4_nearest_42 : decode cX4_nearest 42 = .ok (.ireturn, 1) := by decide +kernel
theorem dX4_nearest_43 : decode cX4_nearest 43 = .ok (.aload_n 0, 1) := by decide +kernel
theorem dX4_nearest_44 : decode cX4_nearest 44 = .ok (.getfield 12, 3) := by decide +kernel
theorem dX4_nearest_47 : decode cX4_nearest 47 = .ok (.iload_n 1, 1) := by decide +kernel
theorem dX4_nearest_48 : decode cX4_nearest 48 = .ok (.iload_n 3, 1) := by decide +kernel
theorem dX4_nearest_49 : decode cX4_nearest 49 = .ok (.invokevirtual 127, 3) := by decide +kernel
theorem dX4_nearest_52 : decode cX4_nearest 52 = .ok (.ireturn, 1) := by decide +kernel
set_option maxRecDepth 20000 in
theorem ggX4_bestMixture_X4_isWithin : GoodIn wsX4_bestMixture wsX4_isWithin := goodIn_r _ [5] (by decide +kernel) (by decide +kernel)
set_option maxRecDepth 20000 in
theorem gX4_bestMixture_X4_isWithin : GoodIn wsX4_bestMixture (va_wsS RX4 105 yX4_isWithin wsX4_isWithin) := goodIn_app (goodIn_of _ (by decide +kernel)) ggX4_bestMixture_X4_isWithin
set_option maxRecDepth 20000 in
theorem ggX4_bestMixture_X0_mixture : GoodIn wsX4_bestMixture wsX0_mixture := goodIn_r _ [10, 11, 12, 13, 4, 14, 15, 16, 17, 18, 19, 20, 21, 22, 23, 24, 25, 26, 27, 9, 28, 29, 30, 31, 32, 33, 34, 35, 36, 37, 38, 39, 40, 41, 42, 43, 44, 45, 46, 47, 48, 49, 50, 51, 52, 60, 61, 62, 63, 64, 65, 66, 67, 68, 69, 70, 71, 72, 73, 74, 75, 76, 77] (by decide +kernel) (by decide +kernel)
set_option maxRecDepth 20000 in
theorem gX4_bestMixture_X0_mixture : GoodIn wsX4_bestMixture (wsV RX4 140 RX0 yX0_mixture wsX0_mixture) := goodIn_app (goodIn_of _ (by decide +kernel)) ggX4_bestMixture_X0_mixture
theorem dX4_bestMixture_0 : decode cX4_bestMixture 0 = .ok (.iload_n 1, 1) := by decide +kernel
theorem dX4_bestMixture_1 : decode cX4_bestMixture 1 = .ok (.bipush 6, 2) := by decide +kernel
theorem dX4_bestMixture_3 : decode cX4_bestMixture 3 = .ok (.invokestatic 105, 3) := by decide +kernel
theorem dX4_bestMixture_6 : decode cX4_bestMixture 6 = .ok (.ifCond .ne 5, 3) := by decide +kernel
theorem dX4_bestMixture_9 : decode cX4_bestMixture 9 = .ok (.iconst (-1), 1) := by decide +kernel
theorem dX4_bestMixture_10 : decode cX4_bestMixture 10 = .ok (.ireturn, 1) := by decide +kernel
theorem dX4_bestMixture_11 : decode cX4_bestMixture 11 = .ok (.iload_n 2, 1) := by decide +kernel
theorem dX4_bestMixture_12 : decode cX4_bestMixture 12 = .ok (.iconst 5, 1) := by decide +kernel
theorem dX4_bestMixture_13 : decode cX4_bestMixture 13 = .ok (.invokestatic 105, 3) := by decide +kernel
theorem dX4_bestMixture_16 : decode cX4_bestMixture 16 = .ok (.ifCond .ne 6, 3) := by decide +kernel
theorem dX4_bestMixture_19 : decode cX4_bestMixture 19 = .ok (.bipush (-2), 2) := by decide +kernel
theorem dX4_bestMixture_21 : decode cX4_bestMixture 21 = .ok (.ireturn, 1) := by decide +kernel
theorem dX4_bestMixture_22 : decode cX4_bestMixture 22 = .ok (.aload_n 0, 1) := by decide +kernel
theorem dX4_bestMixture_23 : decode cX4_bestMixture 23 = .ok (.getfield 21, 3) := by decide +kernel
theorem dX4_bestMixture_26 : decode cX4_bestMixture 26 = .ok (.iload_n 1, 1) := by decide +kernel
theorem dX4_bestMixture_27 : decode cX4_bestMixture 27 = .ok (.iload_n 2, 1) := by decide +kernel
theorem dX4_bestMixture_28 : decode cX4_bestMixture 28 = .ok (.invokevirtual 140, 3) := by decide +kernel
theorem dX4_bestMixture_31 : decode cX4_bestMixture 31 = .ok (.ireturn, 1) := by decide +kernel
set_option maxRecDepth 20000 in
theorem ggX4_rinses_X4_isWithin : GoodIn wsX4_rinses wsX4_isWithin := goodIn_r _ [5] (by decide +kernel) (by decide +kernel)
set_option maxRecDepth 20000 in
theorem gX4_rinses_X4_isWithin : GoodIn wsX4_rinses (va_wsS RX4 105 yX4_isWithin wsX4_isWithin) := goodIn_app (goodIn_of _ (by decide +kernel)) ggX4_rinses_X4_isWithin
set_option maxRecDepth 20000 in
theorem ggX4_rinses_X0_rinsesFrom : GoodIn wsX4_rinses wsX0_rinsesFrom := goodIn_r _ [10, 11, 12, 13, 14, 9, 15, 16, 17, 18, 19, 20, 21, 22, 23, 24, 25, 26, 27, 28, 29, 30, 31, 32, 33, 34, 35, 36, 37, 38, 39, 4, 40, 41, 42, 43, 44, 45, 46, 47, 48, 49, 50, 51, 52, 53, 61, 62, 63, 64, 65, 66, 67, 68, 69, 70, 71, 72, 73, 74, 75, 76, 77, 78] (by decide +kernel) (by decide +kernel)
set_option maxRecDepth 20000 in
theorem gX4_rinses_X0_rinsesFrom : GoodIn wsX4_rinses (wsV RX4 143 RX0 yX0_rinsesFrom wsX0_rinsesFrom) := goodIn_app (goodIn_of _ (by decide +kernel)) ggX4_rinses_X0_rinsesFrom
theorem dX4_rinses_0 : decode cX4_rinses 0 = .ok (.iload_n 1, 1) := by decide +kernel
theorem dX4_rinses_1 : decode cX4_rinses 1 = .ok (.bipush 6, 2) := by decide +kernel
theorem dX4_rinses_3 : decode cX4_rinses 3 = .ok (.invokestatic 105, 3) := by decide +kernel
theorem dX4_rinses_6 : decode cX4_rinses 6 = .ok (.ifCond .ne 5, 3) := by decide +kernel
theorem dX4_rinses_9 : decode cX4_rinses 9 = .ok (.iconst (-1), 1) := by decide +kernel
theorem dX4_rinses_10 : decode cX4_rinses 10 = .ok (.ireturn, 1) := by decide +kernel
theorem dX4_rinses_11 : decode cX4_rinses 11 = .ok (.aload_n 0, 1) := by decide +kernel
theorem dX4_rinses_12 : decode cX4_rinses 12 = .ok (.getfield 21, 3) := by decide +kernel
theorem dX4_rinses_15 : decode cX4_rinses 15 = .ok (.iload_n 1, 1) := by decide +kernel
theorem dX4_rinses_16 : decode cX4_rinses 16 = .ok (.invokevirtual 143, 3) := by decide +kernel
theorem dX4_rinses_19 : decode cX4_rinses 19 = .ok (.ireturn, 1) := by decide +kernel
set_option maxRecDepth 20000 in
theorem ggX4_bestOrder_X4_isWithin : GoodIn wsX4_bestOrder wsX4_isWithin := goodIn_r _ [5] (by decide +kernel) (by decide +kernel)
set_option maxRecDepth 20000 in
theorem gX4_bestOrder_X4_isWithin : GoodIn wsX4_bestOrder (va_wsS RX4 105 yX4_isWithin wsX4_isWithin) := goodIn_app (goodIn_of _ (by decide +kernel)) ggX4_bestOrder_X4_isWithin
set_option maxRecDepth 20000 in
theorem ggX4_bestOrder_X0_panelInOrder : GoodIn wsX4_bestOrder wsX0_panelInOrder := goodIn_r _ [10, 11, 12, 13, 14, 15, 9, 16, 17, 18, 19, 20, 21, 22, 23, 24, 25, 26, 27, 28, 29, 30, 31, 32, 33, 34, 35, 36, 37, 38, 39, 40, 4, 41, 42, 43, 44, 45, 46, 47, 48, 49, 50, 51, 52, 53, 54, 55, 56, 57, 58, 66, 67, 68, 69, 70, 71, 72, 73, 74, 75, 76, 77, 78, 79, 80, 81, 82, 83] (by decide +kernel) (by decide +kernel)
set_option maxRecDepth 20000 in
theorem gX4_bestOrder_X0_panelInOrder : GoodIn wsX4_bestOrder (wsV RX4 146 RX0 yX0_panelInOrder wsX0_panelInOrder) := goodIn_app (goodIn_of _ (by decide +kernel)) ggX4_bestOrder_X0_panelInOrder
theorem dX4_bestOrder_0 : decode cX4_bestOrder 0 = .ok (.iload_n 1, 1) := by decide +kernel
theorem dX4_bestOrder_1 : decode cX4_bestOrder 1 = .ok (.bipush 6, 2) := by decide +kernel
theorem dX4_bestOrder_3 : decode cX4_bestOrder 3 = .ok (.invokestatic 105, 3) := by decide +kernel
theorem dX4_bestOrder_6 : decode cX4_bestOrder 6 = .ok (.ifCond .ne 6, 3) := by decide +kernel
theorem dX4_bestOrder_9 : decode cX4_bestOrder 9 = .ok (.bipush (-2), 2) := by decide +kernel
theorem dX4_bestOrder_11 : decode cX4_bestOrder 11 = .ok (.ireturn, 1) := by decide +kernel
theorem dX4_bestOrder_12 : decode cX4_bestOrder 12 = .ok (.aload_n 0, 1) := by decide +kernel
theorem dX4_bestOrder_13 : decode cX4_bestOrder 13 = .ok (.getfield 21, 3) := by decide +kernel
theorem dX4_bestOrder_16 : decode cX4_bestOrder 16 = .ok (.iload_n 1, 1) := by decide +kernel
theorem dX4_bestOrder_17 : decode cX4_bestOrder 17 = .ok (.invokevirtual 146, 3) := by decide +kernel
theorem dX4_bestOrder_20 : decode cX4_bestOrder 20 = .ok (.ireturn, 1) := by decide +kernel
set_option maxRecDepth 20000 in
theorem ggX4_undo_X4_studioAt : GoodIn wsX4_undo wsX4_studioAt := goodIn_r _ [8] (by decide +kernel) (by decide +kernel)
set_option maxRecDepth 20000 in
theorem gX4_undo_X4_studioAt : GoodIn wsX4_undo (va_wsS RX4 153 yX4_studioAt wsX4_studioAt) := goodIn_app (goodIn_of _ (by decide +kernel)) ggX4_undo_X4_studioAt
set_option maxRecDepth 20000 in
theorem ggX4_undo_X2_copyFrom : GoodIn wsX4_undo wsX2_copyFrom := goodIn_r _ [13, 14, 15, 16, 17, 18, 19, 20, 21, 22, 23, 24, 7, 25, 26, 27, 28, 29, 30, 31, 32, 33, 41, 42, 43, 44, 45, 46, 47, 48, 49, 50, 51, 52] (by decide +kernel) (by decide +kernel)
set_option maxRecDepth 20000 in
theorem gX4_undo_X2_copyFrom : GoodIn wsX4_undo (wsV RX4 157 RX2 yX2_copyFrom wsX2_copyFrom) := goodIn_app (goodIn_of _ (by decide +kernel)) ggX4_undo_X2_copyFrom
theorem dX4_undo_0 : decode cX4_undo 0 = .ok (.aload_n 0, 1) := by decide +kernel
theorem dX4_undo_1 : decode cX4_undo 1 = .ok (.getfield 43, 3) := by decide +kernel
theorem dX4_undo_4 : decode cX4_undo 4 = .ok (.ifCond .ne 6, 3) := by decide +kernel
theorem dX4_undo_7 : decode cX4_undo 7 = .ok (.bipush (-5), 2) := by decide +kernel
theorem dX4_undo_9 : decode cX4_undo 9 = .ok (.ireturn, 1) := by decide +kernel
theorem dX4_undo_10 : decode cX4_undo 10 = .ok (.aload_n 0, 1) := by decide +kernel
theorem dX4_undo_11 : decode cX4_undo 11 = .ok (.dup, 1) := by decide +kernel
theorem dX4_undo_12 : decode cX4_undo 12 = .ok (.getfield 43, 3) := by decide +kernel
theorem dX4_undo_15 : decode cX4_undo 15 = .ok (.iconst 1, 1) := by decide +kernel
theorem dX4_undo_16 : decode cX4_undo 16 = .ok (.isub, 1) := by decide +kernel
theorem dX4_undo_17 : decode cX4_undo 17 = .ok (.putfield 43, 3) := by decide +kernel
theorem dX4_undo_20 : decode cX4_undo 20 = .ok (.aload_n 0, 1) := by decide +kernel
theorem dX4_undo_21 : decode cX4_undo 21 = .ok (.aload_n 0, 1) := by decide +kernel
theorem dX4_undo_22 : decode cX4_undo 22 = .ok (.getfield 39, 3) := by decide +kernel
theorem dX4_undo_25 : decode cX4_undo 25 = .ok (.ifCond .ne 8, 3) := by decide +kernel
theorem dX4_undo_28 : decode cX4_undo 28 = .ok (.bipush 6, 2) := by decide +kernel
theorem dX4_undo_30 : decode cX4_undo 30 = .ok (.goto 9, 3) := by decide +kernel
theorem dX4_undo_33 : decode cX4_undo 33 = .ok (.aload_n 0, 1) := by decide +kernel
theorem dX4_undo_34 : decode cX4_undo 34 = .ok (.getfield 39, 3) := by decide +kernel
theorem dX4_undo_37 : decode cX4_undo 37 = .ok (.iconst 1, 1) := by decide +kernel
theorem dX4_undo_38 : decode cX4_undo 38 = .ok (.isub, 1) := by decide +kernel
theorem dX4_undo_39 : decode cX4_undo 39 = .ok (.putfield 39, 3) := by decide +kernel
theorem dX4_undo_42 : decode cX4_undo 42 = .ok (.aload_n 0, 1) := by decide +kernel
theorem dX4_undo_43 : decode cX4_undo 43 = .ok (.getfield 12, 3) := by decide +kernel
theorem dX4_undo_46 : decode cX4_undo 46 = .ok (.aload_n 0, 1) := by decide +kernel
theorem dX4_undo_47 : decode cX4_undo 47 = .ok (.getfield 32, 3) := by decide +kernel
theorem dX4_undo_50 : decode cX4_undo 50 = .ok (.aload_n 0, 1) := by decide +kernel
theorem dX4_undo_51 : decode cX4_undo 51 = .ok (.getfield 39, 3) := by decide +kernel
theorem dX4_undo_54 : decode cX4_undo 54 = .ok (.invokestatic 153, 3) := by decide +kernel
theorem dX4_undo_57 : decode cX4_undo 57 = .ok (.invokevirtual 157, 3) := by decide +kernel
theorem dX4_undo_60 : decode cX4_undo 60 = .ok (.aload_n 0, 1) := by decide +kernel
theorem dX4_undo_61 : decode cX4_undo 61 = .ok (.getfield 43, 3) := by decide +kernel
theorem dX4_undo_64 : decode cX4_undo 64 = .ok (.ireturn, 1) := by decide +kernel
set_option maxRecDepth 20000 in
theorem ggX4_save_X2_init : GoodIn wsX4_save wsX2_init := goodIn_r _ [8, 9, 10, 11, 12, 13, 14, 15, 16, 17, 18, 19, 20, 21, 22, 23, 24, 25, 26, 27, 57, 58, 59, 60, 61, 62, 63, 64, 65, 66, 67, 68] (by decide +kernel) (by decide +kernel)
set_option maxRecDepth 20000 in
theorem gX4_save_X2_init : GoodIn wsX4_save (wsX2_init) := ggX4_save_X2_init
set_option maxRecDepth 20000 in
theorem ggX4_save_X2_copyFrom : GoodIn wsX4_save wsX2_copyFrom := goodIn_r _ [31, 13, 14, 15, 16, 17, 18, 19, 20, 21, 22, 32, 26, 33, 34, 35, 36, 37, 38, 39, 40, 41, 57, 58, 59, 60, 61, 62, 63, 64, 65, 66, 67, 68] (by decide +kernel) (by decide +kernel)
set_option maxRecDepth 20000 in
theorem gX4_save_X2_copyFrom : GoodIn wsX4_save (wsV RX4 157 RX2 yX2_copyFrom wsX2_copyFrom) := goodIn_app (goodIn_of _ (by decide +kernel)) ggX4_save_X2_copyFrom
set_option maxRecDepth 20000 in
theorem ggX4_save_X2_dropsInPots : GoodIn wsX4_save wsX2_dropsInPots := goodIn_r _ [45, 46, 47, 48, 4, 49, 14, 57, 58, 59, 60, 61, 62, 63, 64, 65, 66, 67, 68] (by decide +kernel) (by decide +kernel)
set_option maxRecDepth 20000 in
theorem gX4_save_X2_dropsInPots : GoodIn wsX4_save (wsV RX4 160 RX2 yX2_dropsInPots wsX2_dropsInPots) := goodIn_app (goodIn_of _ (by decide +kernel)) ggX4_save_X2_dropsInPots
theorem dX4_save_0 : decode cX4_save 0 = .ok (.iload_n 1, 1) := by decide +kernel
theorem dX4_save_1 : decode cX4_save 1 = .ok (.ifCond .lt 12, 3) := by decide +kernel
theorem dX4_save_4 : decode cX4_save 4 = .ok (.iload_n 1, 1) := by decide +kernel
theorem dX4_save_5 : decode cX4_save 5 = .ok (.aload_n 0, 1) := by decide +kernel
theorem dX4_save_6 : decode cX4_save 6 = .ok (.getfield 36, 3) := by decide +kernel
theorem dX4_save_9 : decode cX4_save 9 = .ok (.arraylength, 1) := by decide +kernel
theorem dX4_save_10 : decode cX4_save 10 = .ok (.if_icmp .lt 6, 3) := by decide +kernel
theorem dX4_save_13 : decode cX4_save 13 = .ok (.bipush (-2), 2) := by decide +kernel
theorem dX4_save_15 : decode cX4_save 15 = .ok (.ireturn, 1) := by decide +kernel
theorem dX4_save_16 : decode cX4_save 16 = .ok (.aload_n 0, 1) := by decide +kernel
theorem dX4_save_17 : decode cX4_save 17 = .ok (.getfield 36, 3) := by decide +kernel
theorem dX4_save_20 : decode cX4_save 20 = .ok (.iload_n 1, 1) := by decide +kernel
theorem dX4_save_21 : decode cX4_save 21 = .ok (.aaload, 1) := by decide +kernel
theorem dX4_save_22 : decode cX4_save 22 = .ok (.astore_n 2, 1) := by decide +kernel
theorem dX4_save_23 : decode cX4_save 23 = .ok (.aload_n 2, 1) := by decide +kernel
theorem dX4_save_24 : decode cX4_save 24 = .ok (.ifnonnull 18, 3) := by decide +kernel
theorem dX4_save_27 : decode cX4_save 27 = .ok (.new 9, 3) := by decide +kernel
theorem dX4_save_30 : decode cX4_save 30 = .ok (.dup, 1) := by decide +kernel
theorem dX4_save_31 : decode cX4_save 31 = .ok (.invokespecial 11, 3) := by decide +kernel
theorem dX4_save_34 : decode cX4_save 34 = .ok (.astore_n 2, 1) := by decide +kernel
theorem dX4_save_35 : decode cX4_save 35 = .ok (.aload_n 0, 1) := by decide +kernel
theorem dX4_save_36 : decode cX4_save 36 = .ok (.getfield 36, 3) := by decide +kernel
theorem dX4_save_39 : decode cX4_save 39 = .ok (.iload_n 1, 1) := by decide +kernel
theorem dX4_save_40 : decode cX4_save 40 = .ok (.aload_n 2, 1) := by decide +kernel
theorem dX4_save_41 : decode cX4_save 41 = .ok (.aastore, 1) := by decide +kernel
theorem dX4_save_42 : decode cX4_save 42 = .ok (.aload_n 2, 1) := by decide +kernel
theorem dX4_save_43 : decode cX4_save 43 = .ok (.aload_n 0, 1) := by decide +kernel
theorem dX4_save_44 : decode cX4_save 44 = .ok (.getfield 12, 3) := by decide +kernel
theorem dX4_save_47 : decode cX4_save 47 = .ok (.invokevirtual 157, 3) := by decide +kernel
theorem dX4_save_50 : decode cX4_save 50 = .ok (.aload_n 0, 1) := by decide +kernel
theorem dX4_save_51 : decode cX4_save 51 = .ok (.getfield 12, 3) := by decide +kernel
theorem dX4_save_54 : decode cX4_save 54 = .ok (.invokevirtual 160, 3) := by decide +kernel
theorem dX4_save_57 : decode cX4_save 57 = .ok (.ireturn, 1) := by decide +kernel
set_option maxRecDepth 20000 in
theorem ggX4_restore_X4_isWithin : GoodIn wsX4_restore wsX4_isWithin := goodIn_r _ [6] (by decide +kernel) (by decide +kernel)
set_option maxRecDepth 20000 in
theorem gX4_restore_X4_isWithin : GoodIn wsX4_restore (va_wsS RX4 105 yX4_isWithin wsX4_isWithin) := goodIn_app (goodIn_of _ (by decide +kernel)) ggX4_restore_X4_isWithin
set_option maxRecDepth 20000 in
theorem ggX4_restore_X4_studioAt : GoodIn wsX4_restore wsX4_studioAt := goodIn_r _ [9] (by decide +kernel) (by decide +kernel)
set_option maxRecDepth 20000 in
theorem gX4_restore_X4_studioAt : GoodIn wsX4_restore (va_wsS RX4 153 yX4_studioAt wsX4_studioAt) := goodIn_app (goodIn_of _ (by decide +kernel)) ggX4_restore_X4_studioAt
set_option maxRecDepth 20000 in
theorem ggX4_restore_X4_keepState : GoodIn wsX4_restore wsX4_keepState := goodIn_r _ [13, 14, 15, 2, 7, 8, 5, 9, 16, 17, 18, 19, 20, 21, 22, 23, 24, 25, 26, 27, 28, 29, 30, 31, 32, 33, 34, 35, 36, 37, 38, 39, 40, 54, 55, 56, 57, 58, 59, 60, 61, 62, 63, 64, 65, 66, 67, 68, 69, 70, 71, 72] (by decide +kernel) (by decide +kernel)
set_option maxRecDepth 20000 in
theorem gX4_restore_X4_keepState : GoodIn wsX4_restore (wsV RX4 46 RX4 yX4_keepState wsX4_keepState) := goodIn_app (goodIn_of _ (by decide +kernel)) ggX4_restore_X4_keepState
set_option maxRecDepth 20000 in
theorem ggX4_restore_X2_copyFrom : GoodIn wsX4_restore wsX2_copyFrom := goodIn_r _ [20, 21, 22, 23, 24, 25, 26, 27, 28, 29, 30, 31, 5, 32, 33, 34, 35, 36, 37, 38, 39, 40, 61, 62, 63, 64, 65, 66, 67, 68, 69, 70, 71, 72] (by decide +kernel) (by decide +kernel)
set_option maxRecDepth 20000 in
theorem gX4_restore_X2_copyFrom : GoodIn wsX4_restore (wsV RX4 157 RX2 yX2_copyFrom wsX2_copyFrom) := goodIn_app (goodIn_of _ (by decide +kernel)) ggX4_restore_X2_copyFrom
set_option maxRecDepth 20000 in
theorem ggX4_restore_X2_dropsInPots : GoodIn wsX4_restore wsX2_dropsInPots := goodIn_r _ [44, 45, 46, 47, 19, 48, 22, 61, 62, 63, 64, 65, 66, 67, 68, 69, 70, 71, 72] (by decide +kernel) (by decide +kernel)
set_option maxRecDepth 20000 in
theorem gX4_restore_X2_dropsInPots : GoodIn wsX4_restore (wsV RX4 160 RX2 yX2_dropsInPots wsX2_dropsInPots) := goodIn_app (goodIn_of _ (by decide +kernel)) ggX4_restore_X2_dropsInPots
set_option maxRecDepth 20000 in
theorem ggX4_restore_X4_recorded : GoodIn wsX4_restore wsX4_recorded := goodIn_r _ [52, 15, 53, 33, 34, 35, 36, 54, 55, 56, 57, 58, 59, 60] (by decide +kernel) (by decide +kernel)
set_option maxRecDepth 20000 in
theorem gX4_restore_X4_recorded : GoodIn wsX4_restore (wsV RX4 53 RX4 yX4_recorded wsX4_recorded) := goodIn_app (goodIn_of _ (by decide +kernel)) ggX4_restore_X4_recorded
theorem dX4_restore_0 : decode cX4_restore 0 = .ok (.iload_n 1, 1) := by decide +kernel
theorem dX4_restore_1 : decode cX4_restore 1 = .ok (.iconst 2, 1) := by decide +kernel
theorem dX4_restore_2 : decode cX4_restore 2 = .ok (.invokestatic 105, 3) := by decide +kernel
theorem dX4_restore_5 : decode cX4_restore 5 = .ok (.ifCond .ne 6, 3) := by decide +kernel
theorem dX4_restore_8 : decode cX4_restore 8 = .ok (.bipush (-2), 2) := by decide +kernel
theorem dX4_restore_10 : decode cX4_restore 10 = .ok (.ireturn, 1) := by decide +kernel
theorem dX4_restore_11 : decode cX4_restore 11 = .ok (.aload_n 0, 1) := by decide +kernel
theorem dX4_restore_12 : decode cX4_restore 12 = .ok (.getfield 36, 3) := by decide +kernel
theorem dX4_restore_15 : decode cX4_restore 15 = .ok (.iload_n 1, 1) := by decide +kernel
theorem dX4_restore_16 : decode cX4_restore 16 = .ok (.invokestatic 153, 3) := by decide +kernel
theorem dX4_restore_19 : decode cX4_restore 19 = .ok (.astore_n 2, 1) := by decide +kernel
theorem dX4_restore_20 : decode cX4_restore 20 = .ok (.aload_n 2, 1) := by decide +kernel
theorem dX4_restore_21 : decode cX4_restore 21 = .ok (.ifnonnull 6, 3) := by decide +kernel
theorem dX4_restore_24 : decode cX4_restore 24 = .ok (.bipush (-5), 2) := by decide +kernel
theorem dX4_restore_26 : decode cX4_restore 26 = .ok (.ireturn, 1) := by decide +kernel
theorem dX4_restore_27 : decode cX4_restore 27 = .ok (.aload_n 0, 1) := by decide +kernel
theorem dX4_restore_28 : decode cX4_restore 28 = .ok (.invokevirtual 46, 3) := by decide +kernel
theorem dX4_restore_31 : decode cX4_restore 31 = .ok (.aload_n 0, 1) := by decide +kernel
theorem dX4_restore_32 : decode cX4_restore 32 = .ok (.getfield 12, 3) := by decide +kernel
theorem dX4_restore_35 : decode cX4_restore 35 = .ok (.aload_n 2, 1) := by decide +kernel
theorem dX4_restore_36 : decode cX4_restore 36 = .ok (.invokevirtual 157, 3) := by decide +kernel
theorem dX4_restore_39 : decode cX4_restore 39 = .ok (.aload_n 0, 1) := by decide +kernel
theorem dX4_restore_40 : decode cX4_restore 40 = .ok (.aload_n 0, 1) := by decide +kernel
theorem dX4_restore_41 : decode cX4_restore 41 = .ok (.getfield 12, 3) := by decide +kernel
theorem dX4_restore_44 : decode cX4_restore 44 = .ok (.invokevirtual 160, 3) := by decide +kernel
theorem dX4_restore_47 : decode cX4_restore 47 = .ok (.invokevirtual 53, 3) := by decide +kernel
theorem dX4_restore_50 : decode cX4_restore 50 = .ok (.ireturn, 1) := by decide +kernel
set_option maxRecDepth 20000 in
theorem ggX4_keepState_X4_studioAt : GoodIn wsX4_keepState wsX4_studioAt := goodIn_r _ [7] (by decide +kernel) (by decide +kernel)
set_option maxRecDepth 20000 in
theorem gX4_keepState_X4_studioAt : GoodIn wsX4_keepState (va_wsS RX4 153 yX4_studioAt wsX4_studioAt) := goodIn_app (goodIn_of _ (by decide +kernel)) ggX4_keepState_X4_studioAt
set_option maxRecDepth 20000 in
theorem ggX4_keepState_X2_copyFrom : GoodIn wsX4_keepState wsX2_copyFrom := goodIn_r _ [12, 13, 14, 15, 16, 17, 18, 19, 20, 21, 22, 23, 6, 24, 25, 26, 27, 28, 29, 30, 31, 32, 40, 41, 42, 43, 44, 45, 46, 47, 48, 49, 50, 51] (by decide +kernel) (by decide +kernel)
set_option maxRecDepth 20000 in
theorem gX4_keepState_X2_copyFrom : GoodIn wsX4_keepState (wsV RX4 157 RX2 yX2_copyFrom wsX2_copyFrom) := goodIn_app (goodIn_of _ (by decide +kernel)) ggX4_keepState_X2_copyFrom
theorem dX4_keepState_0 : decode cX4_keepState 0 = .ok (.aload_n 0, 1) := by decide +kernel
theorem dX4_keepState_1 : decode cX4_keepState 1 = .ok (.getfield 32, 3) := by decide +kernel
theorem dX4_keepState_4 : decode cX4_keepState 4 = .ok (.aload_n 0, 1) := by decide +kernel
theorem dX4_keepState_5 : decode cX4_keepState 5 = .ok (.getfield 39, 3) := by decide +kernel
theorem dX4_keepState_8 : decode cX4_keepState 8 = .ok (.invokestatic 153, 3) := by decide +kernel
theorem dX4_keepState_11 : decode cX4_keepState 11 = .ok (.astore_n 1, 1) := by decide +kernel
theorem dX4_keepState_12 : decode cX4_keepState 12 = .ok (.aload_n 1, 1) := by decide +kernel
theorem dX4_keepState_13 : decode cX4_keepState 13 = .ok (.ifnull 11, 3) := by decide +kernel
theorem dX4_keepState_16 : decode cX4_keepState 16 = .ok (.aload_n 1, 1) := by decide +kernel
theorem dX4_keepState_17 : decode cX4_keepState 17 = .ok (.aload_n 0, 1) := by decide +kernel
theorem dX4_keepState_18 : decode cX4_keepState 18 = .ok (.getfield 12, 3) := by decide +kernel
theorem dX4_keepState_21 : decode cX4_keepState 21 = .ok (.invokevirtual 157, 3) := by decide +kernel
theorem dX4_keepState_24 : decode cX4_keepState 24 = .ok (.return_, 1) := by decide +kernel
theorem dX4_recorded_0 : decode cX4_recorded 0 = .ok (.iload_n 1, 1) := by decide +kernel
theorem dX4_recorded_1 : decode cX4_recorded 1 = .ok (.ifCond .lt 41, 3) := by decide +kernel
theorem dX4_recorded_4 : decode cX4_recorded 4 = .ok (.aload_n 0, 1) := by decide +kernel
theorem dX4_recorded_5 : decode cX4_recorded 5 = .ok (.aload_n 0, 1) := by decide +kernel
theorem dX4_recorded_6 : decode cX4_recorded 6 = .ok (.getfield 39, 3) := by decide +kernel
theorem dX4_recorded_9 : decode cX4_recorded 9 = .ok (.bipush 6, 2) := by decide +kernel
theorem dX4_recorded_11 : decode cX4_recorded 11 = .ok (.if_icmp .lt 7, 3) := by decide +kernel
theorem dX4_recorded_14 : decode cX4_recorded 14 = .ok (.iconst 0, 1) := by decide +kernel
theorem dX4_recorded_15 : decode cX4_recorded 15 = .ok (.goto 9, 3) := by decide +kernel
theorem dX4_recorded_18 : decode cX4_recorded 18 = .ok (.aload_n 0, 1) := by decide +kernel
theorem dX4_recorded_19 : decode cX4_recorded 19 = .ok (.getfield 39, 3) := by decide +kernel
theorem dX4_recorded_22 : decode cX4_recorded 22 = .ok (.iconst 1, 1) := by decide +kernel
theorem dX4_recorded_23 : decode cX4_recorded 23 = .ok (.iadd, 1) := by decide +kernel
theorem dX4_recorded_24 : decode cX4_recorded 24 = .ok (.putfield 39, 3) := by decide +kernel
theorem dX4_recorded_27 : decode cX4_recorded 27 = .ok (.aload_n 0, 1) := by decide +kernel
theorem dX4_recorded_28 : decode cX4_recorded 28 = .ok (.aload_n 0, 1) := by decide +kernel
theorem dX4_recorded_29 : decode cX4_recorded 29 = .ok (.getfield 43, 3) := by decide +kernel
theorem dX4_recorded_32 : decode cX4_recorded 32 = .ok (.iconst 1, 1) := by decide +kernel
theorem dX4_recorded_33 : decode cX4_recorded 33 = .ok (.iadd, 1) := by decide +kernel
theorem dX4_recorded_34 : decode cX4_recorded 34 = .ok (.bipush 6, 2) := by decide +kernel
theorem dX4_recorded_36 : decode cX4_recorded 36 = .ok (.invokestatic 163, 3) := by decide +kernel
theorem dX4_recorded_39 : decode cX4_recorded 39 = .ok (.putfield 43, 3) := by decide +kernel
theorem dX4_recorded_42 : decode cX4_recorded 42 = .ok (.iload_n 1, 1) := by decide +kernel
theorem dX4_recorded_43 : decode cX4_recorded 43 = .ok (.ireturn, 1) := by decide +kernel
theorem dX4_isWithin_0 : decode cX4_isWithin 0 = .ok (.iload_n 0, 1) := by decide +kernel
theorem dX4_isWithin_1 : decode cX4_isWithin 1 = .ok (.ifCond .lt 12, 3) := by decide +kernel
theorem dX4_isWithin_4 : decode cX4_isWithin 4 = .ok (.iload_n 0, 1) := by decide +kernel
theorem dX4_isWithin_5 : decode cX4_isWithin 5 = .ok (.iload_n 1, 1) := by decide +kernel
theorem dX4_isWithin_6 : decode cX4_isWithin 6 = .ok (.if_icmp .ge 7, 3) := by decide +kernel
theorem dX4_isWithin_9 : decode cX4_isWithin 9 = .ok (.iconst 1, 1) := by decide +kernel
theorem dX4_isWithin_10 : decode cX4_isWithin 10 = .ok (.goto 4, 3) := by decide +kernel
theorem dX4_isWithin_13 : decode cX4_isWithin 13 = .ok (.iconst 0, 1) := by decide +kernel
theorem dX4_isWithin_14 : decode cX4_isWithin 14 = .ok (.ireturn, 1) := by decide +kernel
theorem dX4_isBetween_0 : decode cX4_isBetween 0 = .ok (.iload_n 0, 1) := by decide +kernel
theorem dX4_isBetween_1 : decode cX4_isBetween 1 = .ok (.iload_n 1, 1) := by decide +kernel
theorem dX4_isBetween_2 : decode cX4_isBetween 2 = .ok (.if_icmp .lt 12, 3) := by decide +kernel
theorem dX4_isBetween_5 : decode cX4_isBetween 5 = .ok (.iload_n 0, 1) := by decide +kernel
theorem dX4_isBetween_6 : decode cX4_isBetween 6 = .ok (.iload_n 2, 1) := by decide +kernel
theorem dX4_isBetween_7 : decode cX4_isBetween 7 = .ok (.if_icmp .gt 7, 3) := by decide +kernel
theorem dX4_isBetween_10 : decode cX4_isBetween 10 = .ok (.iconst 1, 1) := by decide +kernel
theorem dX4_isBetween_11 : decode cX4_isBetween 11 = .ok (.goto 4, 3) := by decide +kernel
theorem dX4_isBetween_14 : decode cX4_isBetween 14 = .ok (.iconst 0, 1) := by decide +kernel
theorem dX4_isBetween_15 : decode cX4_isBetween 15 = .ok (.ireturn, 1) := by decide +kernel
theorem dX4_at_0 : decode cX4_at 0 = .ok (.aload_n 0, 1) := by decide +kernel
theorem dX4_at_1 : decode cX4_at 1 = .ok (.ifnull 13, 3) := by decide +kernel
theorem dX4_at_4 : decode cX4_at 4 = .ok (.iload_n 1, 1) := by decide +kernel
theorem dX4_at_5 : decode cX4_at 5 = .ok (.ifCond .lt 9, 3) := by decide +kernel
theorem dX4_at_8 : decode cX4_at 8 = .ok (.iload_n 1, 1) := by decide +kernel
theorem dX4_at_9 : decode cX4_at 9 = .ok (.aload_n 0, 1) := by decide +kernel
theorem dX4_at_10 : decode cX4_at 10 = .ok (.arraylength, 1) := by decide +kernel
theorem dX4_at_11 : decode cX4_at 11 = .ok (.if_icmp .lt 5, 3) := by decide +kernel
theorem dX4_at_14 : decode cX4_at 14 = .ok (.iconst 0, 1) := by decide +kernel
theorem dX4_at_15 : decode cX4_at 15 = .ok (.ireturn, 1) := by decide +kernel
theorem dX4_at_16 : decode cX4_at 16 = .ok (.aload_n 0, 1) := by decide +kernel
theorem dX4_at_17 : decode cX4_at 17 = .ok (.iload_n 1, 1) := by decide +kernel
theorem dX4_at_18 : decode cX4_at 18 = .ok (.iaload, 1) := by decide +kernel
theorem dX4_at_19 : decode cX4_at 19 = .ok (.ireturn, 1) := by decide +kernel
theorem dX4_write_0 : decode cX4_write 0 = .ok (.aload_n 0, 1) := by decide +kernel
theorem dX4_write_1 : decode cX4_write 1 = .ok (.ifnull 17, 3) := by decide +kernel
theorem dX4_write_4 : decode cX4_write 4 = .ok (.iload_n 1, 1) := by decide +kernel
theorem dX4_write_5 : decode cX4_write 5 = .ok (.ifCond .lt 13, 3) := by decide +kernel
theorem dX4_write_8 : decode cX4_write 8 = .ok (.iload_n 1, 1) := by decide +kernel
theorem dX4_write_9 : decode cX4_write 9 = .ok (.aload_n 0, 1) := by decide +kernel
theorem dX4_write_10 : decode cX4_write 10 = .ok (.arraylength, 1) := by decide +kernel
theorem dX4_write_11 : decode cX4_write 11 = .ok (.if_icmp .ge 7, 3) := by decide +kernel
theorem dX4_write_14 : decode cX4_write 14 = .ok (.aload_n 0, 1) := by decide +kernel
theorem dX4_write_15 : decode cX4_write 15 = .ok (.iload_n 1, 1) := by decide +kernel
theorem dX4_write_16 : decode cX4_write 16 = .ok (.iload_n 2, 1) := by decide +kernel
theorem dX4_write_17 : decode cX4_write 17 = .ok (.iastore, 1) := by decide +kernel
theorem dX4_write_18 : decode cX4_write 18 = .ok (.return_, 1) := by decide +kernel
set_option maxRecDepth 20000 in
theorem ggX4_add_X4_at : GoodIn wsX4_add wsX4_at := goodIn_r _ [4] (by decide +kernel) (by decide +kernel)
set_option maxRecDepth 20000 in
theorem gX4_add_X4_at : GoodIn wsX4_add (va_wsS RX4 189 yX4_at wsX4_at) := goodIn_app (goodIn_of _ (by decide +kernel)) ggX4_add_X4_at
set_option maxRecDepth 20000 in
theorem ggX4_add_X4_write : GoodIn wsX4_add wsX4_write := goodIn_r _ [7] (by decide +kernel) (by decide +kernel)
set_option maxRecDepth 20000 in
theorem gX4_add_X4_write : GoodIn wsX4_add (va_wsS RX4 193 yX4_write wsX4_write) := goodIn_app (goodIn_of _ (by decide +kernel)) ggX4_add_X4_write
theorem dX4_add_0 : decode cX4_add 0 = .ok (.aload_n 0, 1) := by decide +kernel
theorem dX4_add_1 : decode cX4_add 1 = .ok (.iload_n 1, 1) := by decide +kernel
theorem dX4_add_2 : decode cX4_add 2 = .ok (.aload_n 0, 1) := by decide +kernel
theorem dX4_add_3 : decode cX4_add 3 = .ok (.iload_n 1, 1) := by decide +kernel
theorem dX4_add_4 : decode cX4_add 4 = .ok (.invokestatic 189, 3) := by decide +kernel
theorem dX4_add_7 : decode cX4_add 7 = .ok (.iload_n 2, 1) := by decide +kernel
theorem dX4_add_8 : decode cX4_add 8 = .ok (.iadd, 1) := by decide +kernel
theorem dX4_add_9 : decode cX4_add 9 = .ok (.invokestatic 193, 3) := by decide +kernel
theorem dX4_add_12 : decode cX4_add 12 = .ok (.return_, 1) := by decide +kernel
theorem dX4_copyRow_0 : decode cX4_copyRow 0 = .ok (.aload_n 0, 1) := by decide +kernel
theorem dX4_copyRow_1 : decode cX4_copyRow 1 = .ok (.ifnull 21, 3) := by decide +kernel
theorem dX4_copyRow_4 : decode cX4_copyRow 4 = .ok (.aload_n 1, 1) := by decide +kernel
theorem dX4_copyRow_5 : decode cX4_copyRow 5 = .ok (.ifnull 17, 3) := by decide +kernel
theorem dX4_copyRow_8 : decode cX4_copyRow 8 = .ok (.aload_n 0, 1) := by decide +kernel
theorem dX4_copyRow_9 : decode cX4_copyRow 9 = .ok (.iconst 0, 1) := by decide +kernel
theorem dX4_copyRow_10 : decode cX4_copyRow 10 = .ok (.aload_n 1, 1) := by decide +kernel
theorem dX4_copyRow_11 : decode cX4_copyRow 11 = .ok (.iconst 0, 1) := by decide +kernel
theorem dX4_copyRow_12 : decode cX4_copyRow 12 = .ok (.aload_n 0, 1) := by decide +kernel
theorem dX4_copyRow_13 : decode cX4_copyRow 13 = .ok (.arraylength, 1) := by decide +kernel
theorem dX4_copyRow_14 : decode cX4_copyRow 14 = .ok (.aload_n 1, 1) := by decide +kernel
theorem dX4_copyRow_15 : decode cX4_copyRow 15 = .ok (.arraylength, 1) := by decide +kernel
theorem dX4_copyRow_16 : decode cX4_copyRow 16 = .ok (.invokestatic 163, 3) := by decide +kernel
theorem dX4_copyRow_19 : decode cX4_copyRow 19 = .ok (.invokestatic 197, 3) := by decide +kernel
theorem dX4_copyRow_22 : decode cX4_copyRow 22 = .ok (.return_, 1) := by decide +kernel
theorem dX4_divide_0 : decode cX4_divide 0 = .ok (.iload_n 1, 1) := by decide +kernel
theorem dX4_divide_1 : decode cX4_divide 1 = .ok (.ifCond .gt 7, 3) := by decide +kernel
theorem dX4_divide_4 : decode cX4_divide 4 = .ok (.iconst 0, 1) := by decide +kernel
theorem dX4_divide_5 : decode cX4_divide 5 = .ok (.goto 6, 3) := by decide +kernel
theorem dX4_divide_8 : decode cX4_divide 8 = .ok (.iload_n 0, 1) := by decide +kernel
theorem dX4_divide_9 : decode cX4_divide 9 = .ok (.iload_n 1, 1) := by decide +kernel
theorem dX4_divide_10 : decode cX4_divide 10 = .ok (.idiv, 1) := by decide +kernel
theorem dX4_divide_11 : decode cX4_divide 11 = .ok (.ireturn, 1) := by decide +kernel
theorem dX4_remainder_0 : decode cX4_remainder 0 = .ok (.iload_n 1, 1) := by decide +kernel
theorem dX4_remainder_1 : decode cX4_remainder 1 = .ok (.ifCond .gt 7, 3) := by decide +kernel
theorem dX4_remainder_4 : decode cX4_remainder 4 = .ok (.iconst 0, 1) := by decide +kernel
theorem dX4_remainder_5 : decode cX4_remainder 5 = .ok (.goto 6, 3) := by decide +kernel
theorem dX4_remainder_8 : decode cX4_remainder 8 = .ok (.iload_n 0, 1) := by decide +kernel
theorem dX4_remainder_9 : decode cX4_remainder 9 = .ok (.iload_n 1, 1) := by decide +kernel
theorem dX4_remainder_10 : decode cX4_remainder 10 = .ok (.irem, 1) := by decide +kernel
theorem dX4_remainder_11 : decode cX4_remainder 11 = .ok (.ireturn, 1) := by decide +kernel
theorem dX4_studioAt_0 : decode cX4_studioAt 0 = .ok (.aload_n 0, 1) := by decide +kernel
theorem dX4_studioAt_1 : decode cX4_studioAt 1 = .ok (.ifnull 13, 3) := by decide +kernel
theorem dX4_studioAt_4 : decode cX4_studioAt 4 = .ok (.iload_n 1, 1) := by decide +kernel
theorem dX4_studioAt_5 : decode cX4_studioAt 5 = .ok (.ifCond .lt 9, 3) := by decide +kernel
theorem dX4_studioAt_8 : decode cX4_studioAt 8 = .ok (.iload_n 1, 1) := by decide +kernel
theorem dX4_studioAt_9 : decode cX4_studioAt 9 = .ok (.aload_n 0, 1) := by decide +kernel
theorem dX4_studioAt_10 : decode cX4_studioAt 10 = .ok (.arraylength, 1) := by decide +kernel
theorem dX4_studioAt_11 : decode cX4_studioAt 11 = .ok (.if_icmp .lt 5, 3) := by decide +kernel
theorem dX4_studioAt_14 : decode cX4_studioAt 14 = .ok (.aconst_null, 1) := by decide +kernel
theorem dX4_studioAt_15 : decode cX4_studioAt 15 = .ok (.areturn, 1) := by decide +kernel
theorem dX4_studioAt_16 : decode cX4_studioAt 16 = .ok (.aload_n 0, 1) := by decide +kernel
theorem dX4_studioAt_17 : decode cX4_studioAt 17 = .ok (.iload_n 1, 1) := by decide +kernel
theorem dX4_studioAt_18 : decode cX4_studioAt 18 = .ok (.aaload, 1) := by decide +kernel
theorem dX4_studioAt_19 : decode cX4_studioAt 19 = .ok (.areturn, 1) := by decide +kernel
theorem dJ9_abs_0f7a4_0 : decode cJ9_abs_0f7a4 0 = .ok (.iload_n 0, 1) := by decide +kernel
theorem dJ9_abs_0f7a4_1 : decode cJ9_abs_0f7a4 1 = .ok (.ifCond .ge 8, 3) := by decide +kernel
theorem dJ9_abs_0f7a4_4 : decode cJ9_abs_0f7a4 4 = .ok (.iload_n 0, 1) := by decide +kernel
theorem dJ9_abs_0f7a4_5 : decode cJ9_abs_0f7a4 5 = .ok (.ineg, 1) := by decide +kernel
theorem dJ9_abs_0f7a4_6 : decode cJ9_abs_0f7a4 6 = .ok (.goto 4, 3) := by decide +kernel
theorem dJ9_abs_0f7a4_9 : decode cJ9_abs_0f7a4 9 = .ok (.iload_n 0, 1) := by decide +kernel
theorem dJ9_abs_0f7a4_10 : decode cJ9_abs_0f7a4 10 = .ok (.ireturn, 1) := by decide +kernel
theorem dJ9_min_7cf53_0 : decode cJ9_min_7cf53 0 = .ok (.iload_n 0, 1) := by decide +kernel
theorem dJ9_min_7cf53_1 : decode cJ9_min_7cf53 1 = .ok (.iload_n 1, 1) := by decide +kernel
theorem dJ9_min_7cf53_2 : decode cJ9_min_7cf53 2 = .ok (.if_icmp .gt 7, 3) := by decide +kernel
theorem dJ9_min_7cf53_5 : decode cJ9_min_7cf53 5 = .ok (.iload_n 0, 1) := by decide +kernel
theorem dJ9_min_7cf53_6 : decode cJ9_min_7cf53 6 = .ok (.goto 4, 3) := by decide +kernel
theorem dJ9_min_7cf53_9 : decode cJ9_min_7cf53 9 = .ok (.iload_n 1, 1) := by decide +kernel
theorem dJ9_min_7cf53_10 : decode cJ9_min_7cf53 10 = .ok (.ireturn, 1) := by decide +kernel
