theorem dX5_addTitle_57 : decode cX5_addTitle 57 = .ok (.getfield 13, 3) := by decide +kernel
theorem dX5_addTitle_60 : decode cX5_addTitle 60 = .ok (.aload_n 0, 1) := by decide +kernel
theorem dX5_addTitle_61 : decode cX5_addTitle 61 = .ok (.getfield 54, 3) := by decide +kernel
theorem dX5_addTitle_64 : decode cX5_addTitle 64 = .ok (.iload_n 2, 1) := by decide +kernel
theorem dX5_addTitle_65 : decode cX5_addTitle 65 = .ok (.iastore, 1) := by decide +kernel
theorem dX5_addTitle_66 : decode cX5_addTitle 66 = .ok (.aload_n 0, 1) := by decide +kernel
theorem dX5_addTitle_67 : decode cX5_addTitle 67 = .ok (.dup, 1) := by decide +kernel
theorem dX5_addTitle_68 : decode cX5_addTitle 68 = .ok (.getfield 54, 3) := by decide +kernel
theorem dX5_addTitle_71 : decode cX5_addTitle 71 = .ok (.iconst 1, 1) := by decide +kernel
theorem dX5_addTitle_72 : decode cX5_addTitle 72 = .ok (.iadd, 1) := by decide +kernel
theorem dX5_addTitle_73 : decode cX5_addTitle 73 = .ok (.putfield 54, 3) := by decide +kernel
theorem dX5_addTitle_76 : decode cX5_addTitle 76 = .ok (.aload_n 0, 1) := by decide +kernel
theorem dX5_addTitle_77 : decode cX5_addTitle 77 = .ok (.getfield 54, 3) := by decide +kernel
theorem dX5_addTitle_80 : decode cX5_addTitle 80 = .ok (.iconst 1, 1) := by decide +kernel
theorem dX5_addTitle_81 : decode cX5_addTitle 81 = .ok (.isub, 1) := by decide +kernel
theorem dX5_addTitle_82 : decode cX5_addTitle 82 = .ok (.ireturn, 1) := by decide +kernel
set_option maxRecDepth 20000 in
theorem ggX5_yearOf_X5_isTitle : GoodIn wsX5_yearOf wsX5_isTitle := goodIn_r _ [7, 8, 14, 15, 16, 17, 18, 19, 20, 21, 22, 23, 24, 25, 26, 27, 28, 29, 30, 31] (by decide +kernel) (by decide +kernel)
set_option maxRecDepth 20000 in
theorem gX5_yearOf_X5_isTitle : GoodIn wsX5_yearOf (wsV RX5 68 RX5 yX5_isTitle wsX5_isTitle) := goodIn_app (goodIn_of _ (by decide +kernel)) ggX5_yearOf_X5_isTitle
set_option maxRecDepth 20000 in
theorem ggX5_yearOf_X5_holds : GoodIn wsX5_yearOf wsX5_holds := goodIn_r _ [12, 13, 14, 15, 16, 17, 18, 19, 20, 21, 22, 23, 24, 25, 26, 27, 28, 29, 30, 31] (by decide +kernel) (by decide +kernel)
set_option maxRecDepth 20000 in
theorem gX5_yearOf_X5_holds : GoodIn wsX5_yearOf (wsV RX5 64 RX5 yX5_holds wsX5_holds) := goodIn_app (goodIn_of _ (by decide +kernel)) ggX5_yearOf_X5_holds
theorem dX5_yearOf_0 : decode cX5_yearOf 0 = .ok (.aload_n 0, 1) := by decide +kernel
theorem dX5_yearOf_1 : decode cX5_yearOf 1 = .ok (.iload_n 1, 1) := by decide +kernel
theorem dX5_yearOf_2 : decode cX5_yearOf 2 = .ok (.invokevirtual 68, 3) := by decide +kernel
theorem dX5_yearOf_5 : decode cX5_yearOf 5 = .ok (.istore_n 3, 1) := by decide +kernel
theorem dX5_yearOf_6 : decode cX5_yearOf 6 = .ok (.aload_n 0, 1) := by decide +kernel
theorem dX5_yearOf_7 : decode cX5_yearOf 7 = .ok (.iload_n 3, 1) := by decide +kernel
theorem dX5_yearOf_8 : decode cX5_yearOf 8 = .ok (.ifCond .ne 7, 3) := by decide +kernel
theorem dX5_yearOf_11 : decode cX5_yearOf 11 = .ok (.iconst 1, 1) := by decide +kernel
theorem dX5_yearOf_12 : decode cX5_yearOf 12 = .ok (.goto 35, 3) := by decide +kernel
theorem dX5_yearOf_15 : decode cX5_yearOf 15 = .ok (.iload_n 2, 1) := by decide +kernel
theorem dX5_yearOf_16 : decode cX5_yearOf 16 = .ok (.iconst 1, 1) := by decide +kernel
theorem dX5_yearOf_17 : decode cX5_yearOf 17 = .ok (.if_icmp .lt 25, 3) := by decide +kernel
theorem dX5_yearOf_20 : decode cX5_yearOf 20 = .ok (.iload_n 2, 1) := by decide +kernel
theorem dX5_yearOf_21 : decode cX5_yearOf 21 = .ok (.iconst 1, 1) := by decide +kernel
theorem dX5_yearOf_22 : decode cX5_yearOf 22 = .ok (.isub, 1) := by decide +kernel
theorem dX5_yearOf_23 : decode cX5_yearOf 23 = .ok (.aload_n 0, 1) := by decide +kernel
theorem dX5_yearOf_24 : decode cX5_yearOf 24 = .ok (.getfield 13, 3) := by decide +kernel
theorem dX5_yearOf_27 : decode cX5_yearOf 27 = .ok (.iload_n 1, 1) := by decide +kernel
theorem dX5_yearOf_28 : decode cX5_yearOf 28 = .ok (.iaload, 1) := by decide +kernel
theorem dX5_yearOf_29 : decode cX5_yearOf 29 = .ok (.idiv, 1) := by decide +kernel
theorem dX5_yearOf_30 : decode cX5_yearOf 30 = .ok (.bipush 55, 2) := by decide +kernel
theorem dX5_yearOf_32 : decode cX5_yearOf 32 = .ok (.aload_n 0, 1) := by decide +kernel
theorem dX5_yearOf_33 : decode cX5_yearOf 33 = .ok (.getfield 7, 3) := by decide +kernel
theorem dX5_yearOf_36 : decode cX5_yearOf 36 = .ok (.iload_n 1, 1) := by decide +kernel
theorem dX5_yearOf_37 : decode cX5_yearOf 37 = .ok (.iaload, 1) := by decide +kernel
theorem dX5_yearOf_38 : decode cX5_yearOf 38 = .ok (.isub, 1) := by decide +kernel
theorem dX5_yearOf_39 : decode cX5_yearOf 39 = .ok (.if_icmp .le 7, 3) := by decide +kernel
theorem dX5_yearOf_42 : decode cX5_yearOf 42 = .ok (.iconst 2, 1) := by decide +kernel
theorem dX5_yearOf_43 : decode cX5_yearOf 43 = .ok (.goto 4, 3) := by decide +kernel
theorem dX5_yearOf_46 : decode cX5_yearOf 46 = .ok (.iconst 0, 1) := by decide +kernel
theorem dX5_yearOf_47 : decode cX5_yearOf 47 = .ok (.invokevirtual 64, 3) := by decide +kernel
theorem dX5_yearOf_50 : decode cX5_yearOf 50 = .ok (.ifCond .ne 5, 3) := by decide +kernel
theorem dX5_yearOf_53 : decode cX5_yearOf 53 = .ok (.iconst 0, 1) := by decide +kernel
theorem dX5_yearOf_54 : decode cX5_yearOf 54 = .ok (.ireturn, 1) := by decide +kernel
theorem dX5_yearOf_55 : decode cX5_yearOf 55 = .ok (.aload_n 0, 1) := by decide +kernel
theorem dX5_yearOf_56 : decode cX5_yearOf 56 = .ok (.getfield 7, 3) := by decide +kernel
theorem dX5_yearOf_59 : decode cX5_yearOf 59 = .ok (.iload_n 1, 1) := by decide +kernel
theorem dX5_yearOf_60 : decode cX5_yearOf 60 = .ok (.iaload, 1) := by decide +kernel
theorem dX5_yearOf_61 : decode cX5_yearOf 61 = .ok (.iload_n 2, 1) := by decide +kernel
theorem dX5_yearOf_62 : decode cX5_yearOf 62 = .ok (.iconst 1, 1) := by decide +kernel
theorem dX5_yearOf_63 : decode cX5_yearOf 63 = .ok (.isub, 1) := by decide +kernel
theorem dX5_yearOf_64 : decode cX5_yearOf 64 = .ok (.aload_n 0, 1) := by decide +kernel
theorem dX5_yearOf_65 : decode cX5_yearOf 65 = .ok (.getfield 13, 3) := by decide +kernel
theorem dX5_yearOf_68 : decode cX5_yearOf 68 = .ok (.iload_n 1, 1) := by decide +kernel
theorem dX5_yearOf_69 : decode cX5_yearOf 69 = .ok (.iaload, 1) := by decide +kernel
theorem dX5_yearOf_70 : decode cX5_yearOf 70 = .ok (.idiv, 1) := by decide +kernel
theorem dX5_yearOf_71 : decode cX5_yearOf 71 = .ok (.iadd, 1) := by decide +kernel
theorem dX5_yearOf_72 : decode cX5_yearOf 72 = .ok (.ireturn, 1) := by decide +kernel
set_option maxRecDepth 20000 in
theorem ggX5_volumeOf_X5_isTitle : GoodIn wsX5_volumeOf wsX5_isTitle := goodIn_r _ [7, 8, 17, 18, 19, 20, 21, 22, 23, 24, 25, 26, 27, 28, 29, 30, 31, 32, 33, 34] (by decide +kernel) (by decide +kernel)
set_option maxRecDepth 20000 in
theorem gX5_volumeOf_X5_isTitle : GoodIn wsX5_volumeOf (wsV RX5 68 RX5 yX5_isTitle wsX5_isTitle) := goodIn_app (goodIn_of _ (by decide +kernel)) ggX5_volumeOf_X5_isTitle
set_option maxRecDepth 20000 in
theorem ggX5_volumeOf_X5_isBetween : GoodIn wsX5_volumeOf wsX5_isBetween := goodIn_r _ [11] (by decide +kernel) (by decide +kernel)
set_option maxRecDepth 20000 in
theorem gX5_volumeOf_X5_isBetween : GoodIn wsX5_volumeOf (va_wsS RX5 60 yX5_isBetween wsX5_isBetween) := goodIn_app (goodIn_of _ (by decide +kernel)) ggX5_volumeOf_X5_isBetween
set_option maxRecDepth 20000 in
theorem ggX5_volumeOf_X5_holds : GoodIn wsX5_volumeOf wsX5_holds := goodIn_r _ [15, 16, 17, 18, 19, 20, 21, 22, 23, 24, 25, 26, 27, 28, 29, 30, 31, 32, 33, 34] (by decide +kernel) (by decide +kernel)
set_option maxRecDepth 20000 in
theorem gX5_volumeOf_X5_holds : GoodIn wsX5_volumeOf (wsV RX5 64 RX5 yX5_holds wsX5_holds) := goodIn_app (goodIn_of _ (by decide +kernel)) ggX5_volumeOf_X5_holds
theorem dX5_volumeOf_0 : decode cX5_volumeOf 0 = .ok (.aload_n 0, 1) := by decide +kernel
theorem dX5_volumeOf_1 : decode cX5_volumeOf 1 = .ok (.iload_n 1, 1) := by decide +kernel
theorem dX5_volumeOf_2 : decode cX5_volumeOf 2 = .ok (.invokevirtual 68, 3) := by decide +kernel
theorem dX5_volumeOf_5 : decode cX5_volumeOf 5 = .ok (.istore_n 3, 1) := by decide +kernel
theorem dX5_volumeOf_6 : decode cX5_volumeOf 6 = .ok (.aload_n 0, 1) := by decide +kernel
theorem dX5_volumeOf_7 : decode cX5_volumeOf 7 = .ok (.iload_n 3, 1) := by decide +kernel
theorem dX5_volumeOf_8 : decode cX5_volumeOf 8 = .ok (.ifCond .ne 7, 3) := by decide +kernel
theorem dX5_volumeOf_11 : decode cX5_volumeOf 11 = .ok (.iconst 1, 1) := by decide +kernel
theorem dX5_volumeOf_12 : decode cX5_volumeOf 12 = .ok (.goto 23, 3) := by decide +kernel
theorem dX5_volumeOf_15 : decode cX5_volumeOf 15 = .ok (.iload_n 2, 1) := by decide +kernel
theorem dX5_volumeOf_16 : decode cX5_volumeOf 16 = .ok (.aload_n 0, 1) := by decide +kernel
theorem dX5_volumeOf_17 : decode cX5_volumeOf 17 = .ok (.getfield 7, 3) := by decide +kernel
theorem dX5_volumeOf_20 : decode cX5_volumeOf 20 = .ok (.iload_n 1, 1) := by decide +kernel
theorem dX5_volumeOf_21 : decode cX5_volumeOf 21 = .ok (.iaload, 1) := by decide +kernel
theorem dX5_volumeOf_22 : decode cX5_volumeOf 22 = .ok (.bipush 55, 2) := by decide +kernel
theorem dX5_volumeOf_24 : decode cX5_volumeOf 24 = .ok (.invokestatic 60, 3) := by decide +kernel
theorem dX5_volumeOf_27 : decode cX5_volumeOf 27 = .ok (.ifCond .eq 7, 3) := by decide +kernel
theorem dX5_volumeOf_30 : decode cX5_volumeOf 30 = .ok (.iconst 0, 1) := by decide +kernel
theorem dX5_volumeOf_31 : decode cX5_volumeOf 31 = .ok (.goto 4, 3) := by decide +kernel
theorem dX5_volumeOf_34 : decode cX5_volumeOf 34 = .ok (.iconst 2, 1) := by decide +kernel
theorem dX5_volumeOf_35 : decode cX5_volumeOf 35 = .ok (.invokevirtual 64, 3) := by decide +kernel
theorem dX5_volumeOf_38 : decode cX5_volumeOf 38 = .ok (.ifCond .ne 5, 3) := by decide +kernel
theorem dX5_volumeOf_41 : decode cX5_volumeOf 41 = .ok (.iconst 0, 1) := by decide +kernel
theorem dX5_volumeOf_42 : decode cX5_volumeOf 42 = .ok (.ireturn, 1) := by decide +kernel
theorem dX5_volumeOf_43 : decode cX5_volumeOf 43 = .ok (.iload_n 2, 1) := by decide +kernel
theorem dX5_volumeOf_44 : decode cX5_volumeOf 44 = .ok (.aload_n 0, 1) := by decide +kernel
theorem dX5_volumeOf_45 : decode cX5_volumeOf 45 = .ok (.getfield 7, 3) := by decide +kernel
theorem dX5_volumeOf_48 : decode cX5_volumeOf 48 = .ok (.iload_n 1, 1) := by decide +kernel
theorem dX5_volumeOf_49 : decode cX5_volumeOf 49 = .ok (.iaload, 1) := by decide +kernel
theorem dX5_volumeOf_50 : decode cX5_volumeOf 50 = .ok (.isub, 1) := by decide +kernel
theorem dX5_volumeOf_51 : decode cX5_volumeOf 51 = .ok (.aload_n 0, 1) := by decide +kernel
theorem dX5_volumeOf_52 : decode cX5_volumeOf 52 = .ok (.getfield 13, 3) := by decide +kernel
theorem dX5_volumeOf_55 : decode cX5_volumeOf 55 = .ok (.iload_n 1, 1) := by decide +kernel
theorem dX5_volumeOf_56 : decode cX5_volumeOf 56 = .ok (.iaload, 1) := by decide +kernel
theorem dX5_volumeOf_57 : decode cX5_volumeOf 57 = .ok (.imul, 1) := by decide +kernel
theorem dX5_volumeOf_58 : decode cX5_volumeOf 58 = .ok (.iconst 1, 1) := by decide +kernel
theorem dX5_volumeOf_59 : decode cX5_volumeOf 59 = .ok (.iadd, 1) := by decide +kernel
theorem dX5_volumeOf_60 : decode cX5_volumeOf 60 = .ok (.ireturn, 1) := by decide +kernel
set_option maxRecDepth 20000 in
theorem ggX5_addPackage_X5_isBetween : GoodIn wsX5_addPackage wsX5_isBetween := goodIn_r _ [9] (by decide +kernel) (by decide +kernel)
set_option maxRecDepth 20000 in
theorem gX5_addPackage_X5_isBetween : GoodIn wsX5_addPackage (va_wsS RX5 60 yX5_isBetween wsX5_isBetween) := goodIn_app (goodIn_of _ (by decide +kernel)) ggX5_addPackage_X5_isBetween
set_option maxRecDepth 20000 in
theorem ggX5_addPackage_X5_holds : GoodIn wsX5_addPackage wsX5_holds := goodIn_r _ [13, 14, 15, 16, 17, 18, 19, 20, 21, 22, 23, 24, 25, 26, 27, 28, 29, 30, 31, 32] (by decide +kernel) (by decide +kernel)
set_option maxRecDepth 20000 in
theorem gX5_addPackage_X5_holds : GoodIn wsX5_addPackage (wsV RX5 64 RX5 yX5_holds wsX5_holds) := goodIn_app (goodIn_of _ (by decide +kernel)) ggX5_addPackage_X5_holds
theorem dX5_addPackage_0 : decode cX5_addPackage 0 = .ok (.iload_n 1, 1) := by decide +kernel
theorem dX5_addPackage_1 : decode cX5_addPackage 1 = .ok (.iconst 0, 1) := by decide +kernel
theorem dX5_addPackage_2 : decode cX5_addPackage 2 = .ok (.sipush 1000, 3) := by decide +kernel
theorem dX5_addPackage_5 : decode cX5_addPackage 5 = .ok (.invokestatic 60, 3) := by decide +kernel
theorem dX5_addPackage_8 : decode cX5_addPackage 8 = .ok (.ifCond .eq 36, 3) := by decide +kernel
theorem dX5_addPackage_11 : decode cX5_addPackage 11 = .ok (.iload_n 2, 1) := by decide +kernel
theorem dX5_addPackage_12 : decode cX5_addPackage 12 = .ok (.iconst 0, 1) := by decide +kernel
theorem dX5_addPackage_13 : decode cX5_addPackage 13 = .ok (.iconst 2, 1) := by decide +kernel
theorem dX5_addPackage_14 : decode cX5_addPackage 14 = .ok (.invokestatic 60, 3) := by decide +kernel
theorem dX5_addPackage_17 : decode cX5_addPackage 17 = .ok (.ifCond .eq 27, 3) := by decide +kernel
theorem dX5_addPackage_20 : decode cX5_addPackage 20 = .ok (.iload_n 3, 1) := by decide +kernel
theorem dX5_addPackage_21 : decode cX5_addPackage 21 = .ok (.iconst 0, 1) := by decide +kernel
theorem dX5_addPackage_22 : decode cX5_addPackage 22 = .ok (.bipush 15, 2) := by decide +kernel
theorem dX5_addPackage_24 : decode cX5_addPackage 24 = .ok (.invokestatic 60, 3) := by decide +kernel
theorem dX5_addPackage_27 : decode cX5_addPackage 27 = .ok (.ifCond .eq 17, 3) := by decide +kernel
theorem dX5_addPackage_30 : decode cX5_addPackage 30 = .ok (.iload 4, 2) := by decide +kernel
theorem dX5_addPackage_32 : decode cX5_addPackage 32 = .ok (.iconst 0, 1) := by decide +kernel
theorem dX5_addPackage_33 : decode cX5_addPackage 33 = .ok (.iconst 1, 1) := by decide +kernel
theorem dX5_addPackage_34 : decode cX5_addPackage 34 = .ok (.invokestatic 60, 3) := by decide +kernel
theorem dX5_addPackage_37 : decode cX5_addPackage 37 = .ok (.ifCond .eq 7, 3) := by decide +kernel
theorem dX5_addPackage_40 : decode cX5_addPackage 40 = .ok (.iconst 1, 1) := by decide +kernel
theorem dX5_addPackage_41 : decode cX5_addPackage 41 = .ok (.goto 4, 3) := by decide +kernel
theorem dX5_addPackage_44 : decode cX5_addPackage 44 = .ok (.iconst 0, 1) := by decide +kernel
theorem dX5_addPackage_45 : decode cX5_addPackage 45 = .ok (.istore 5, 2) := by decide +kernel
theorem dX5_addPackage_47 : decode cX5_addPackage 47 = .ok (.aload_n 0, 1) := by decide +kernel
theorem dX5_addPackage_48 : decode cX5_addPackage 48 = .ok (.iload 5, 2) := by decide +kernel
theorem dX5_addPackage_50 : decode cX5_addPackage 50 = .ok (.ifCond .ne 7, 3) := by decide +kernel
theorem dX5_addPackage_53 : decode cX5_addPackage 53 = .ok (.iconst 1, 1) := by decide +kernel
theorem dX5_addPackage_54 : decode cX5_addPackage 54 = .ok (.goto 17, 3) := by decide +kernel
theorem dX5_addPackage_57 : decode cX5_addPackage 57 = .ok (.aload_n 0, 1) := by decide +kernel
theorem dX5_addPackage_58 : decode cX5_addPackage 58 = .ok (.getfield 57, 3) := by decide +kernel
theorem dX5_addPackage_61 : decode cX5_addPackage 61 = .ok (.bipush 10, 2) := by decide +kernel
theorem dX5_addPackage_63 : decode cX5_addPackage 63 = .ok (.if_icmp .ne 7, 3) := by decide +kernel
theorem dX5_addPackage_66 : decode cX5_addPackage 66 = .ok (.iconst 2, 1) := by decide +kernel
theorem dX5_addPackage_67 : decode cX5_addPackage 67 = .ok (.goto 4, 3) := by decide +kernel
theorem dX5_addPackage_70 : decode cX5_addPackage 70 = .ok (.iconst 0, 1) := by decide +kernel
theorem dX5_addPackage_71 : decode cX5_addPackage 71 = .ok (.invokevirtual 64, 3) := by decide +kernel
theorem dX5_addPackage_74 : decode cX5_addPackage 74 = .ok (.ifCond .ne 5, 3) := by decide +kernel
theorem dX5_addPackage_77 : decode cX5_addPackage 77 = .ok (.iconst 0, 1) := by decide +kernel
theorem dX5_addPackage_78 : decode cX5_addPackage 78 = .ok (.ireturn, 1) := by decide +kernel
theorem dX5_addPackage_79 : decode cX5_addPackage 79 = .ok (.aload_n 0, 1) := by decide +kernel
theorem dX5_addPackage_80 : decode cX5_addPackage 80 = .ok (.getfield 16, 3) := by decide +kernel
theorem dX5_addPackage_83 : decode cX5_addPackage 83 = .ok (.aload_n 0, 1) := by decide +kernel
theorem dX5_addPackage_84 : decode cX5_addPackage 84 = .ok (.getfield 57, 3) := by decide +kernel
theorem dX5_addPackage_87 : decode cX5_addPackage 87 = .ok (.iload_n 1, 1) := by decide +kernel
theorem dX5_addPackage_88 : decode cX5_addPackage 88 = .ok (.iastore, 1) := by decide +kernel
theorem dX5_addPackage_89 : decode cX5_addPackage 89 = .ok (.aload_n 0, 1) := by decide +kernel
theorem dX5_addPackage_90 : decode cX5_addPackage 90 = .ok (.getfield 19, 3) := by decide +kernel
theorem dX5_addPackage_93 : decode cX5_addPackage 93 = .ok (.aload_n 0, 1) := by decide +kernel
theorem dX5_addPackage_94 : decode cX5_addPackage 94 = .ok (.getfield 57, 3) := by decide +kernel
theorem dX5_addPackage_97 : decode cX5_addPackage 97 = .ok (.iload_n 2, 1) := by decide +kernel
theorem dX5_addPackage_98 : decode cX5_addPackage 98 = .ok (.iastore, 1) := by decide +kernel
theorem dX5_addPackage_99 : decode cX5_addPackage 99 = .ok (.aload_n 0, 1) := by decide +kernel
theorem dX5_addPackage_100 : decode cX5_addPackage 100 = .ok (.getfield 22, 3) := by decide +kernel
theorem dX5_addPackage_103 : decode cX5_addPackage 103 = .ok (.aload_n 0, 1) := by decide +kernel
theorem dX5_addPackage_104 : decode cX5_addPackage 104 = .ok (.getfield 57, 3) := by decide +kernel
theorem dX5_addPackage_107 : decode cX5_addPackage 107 = .ok (.iload_n 3, 1) := by decide +kernel
theorem dX5_addPackage_108 : decode cX5_addPackage 108 = .ok (.iastore, 1) := by decide +kernel
theorem dX5_addPackage_109 : decode cX5_addPackage 109 = .ok (.aload_n 0, 1) := by decide +kernel
theorem dX5_addPackage_110 : decode cX5_addPackage 110 = .ok (.getfield 25, 3) := by decide +kernel
theorem dX5_addPackage_113 : decode cX5_addPackage 113 = .ok (.aload_n 0, 1) := by decide +kernel
theorem dX5_addPackage_114 : decode cX5_addPackage 114 = .ok (.getfield 57, 3) := by decide +kernel
theorem dX5_addPackage_117 : decode cX5_addPackage 117 = .ok (.iload 4, 2) := by decide +kernel
theorem dX5_addPackage_119 : decode cX5_addPackage 119 = .ok (.iconst 1, 1) := by decide +kernel
theorem dX5_addPackage_120 : decode cX5_addPackage 120 = .ok (.if_icmp .ne 7, 3) := by decide +kernel
theorem dX5_addPackage_123 : decode cX5_addPackage 123 = .ok (.iconst 1, 1) := by decide +kernel
theorem dX5_addPackage_124 : decode cX5_addPackage 124 = .ok (.goto 4, 3) := by decide +kernel
theorem dX5_addPackage_127 : decode cX5_addPackage 127 = .ok (.iconst 0, 1) := by decide +kernel
theorem dX5_addPackage_128 : decode cX5_addPackage 128 = .ok (.bastore, 1) := by decide +kernel
theorem dX5_addPackage_129 : decode cX5_addPackage 129 = .ok (.aload_n 0, 1) := by decide +kernel
theorem dX5_addPackage_130 : decode cX5_addPackage 130 = .ok (.dup, 1) := by decide +kernel
theorem dX5_addPackage_131 : decode cX5_addPackage 131 = .ok (.getfield 57, 3) := by decide +kernel
theorem dX5_addPackage_134 : decode cX5_addPackage 134 = .ok (.iconst 1, 1) := by decide +kernel
theorem dX5_addPackage_135 : decode cX5_addPackage 135 = .ok (.iadd, 1) := by decide +kernel
theorem dX5_addPackage_136 : decode cX5_addPackage 136 = .ok (.putfield 57, 3) := by decide +kernel
theorem dX5_addPackage_139 : decode cX5_addPackage 139 = .ok (.aload_n 0, 1) := by decide +kernel
theorem dX5_addPackage_140 : decode cX5_addPackage 140 = .ok (.getfield 57, 3) := by decide +kernel
theorem dX5_addPackage_143 : decode cX5_addPackage 143 = .ok (.iconst 1, 1) := by decide +kernel
theorem dX5_addPackage_144 : decode cX5_addPackage 144 = .ok (.isub, 1) := by decide +kernel
theorem dX5_addPackage_145 : decode cX5_addPackage 145 = .ok (.ireturn, 1) := by decide +kernel
theorem dX5_changeOn_0 : decode cX5_changeOn 0 = .ok (.aload_n 0, 1) := by decide +kernel
theorem dX5_changeOn_1 : decode cX5_changeOn 1 = .ok (.getfield 71, 3) := by decide +kernel
theorem dX5_changeOn_4 : decode cX5_changeOn 4 = .ok (.iconst 1, 1) := by decide +kernel
theorem dX5_changeOn_5 : decode cX5_changeOn 5 = .ok (.isub, 1) := by decide +kernel
theorem dX5_changeOn_6 : decode cX5_changeOn 6 = .ok (.istore_n 3, 1) := by decide +kernel
theorem dX5_changeOn_7 : decode cX5_changeOn 7 = .ok (.iload_n 3, 1) := by decide +kernel
theorem dX5_changeOn_8 : decode cX5_changeOn 8 = .ok (.ifCond .lt 29, 3) := by decide +kernel
theorem dX5_changeOn_11 : decode cX5_changeOn 11 = .ok (.aload_n 0, 1) := by decide +kernel
theorem dX5_changeOn_12 : decode cX5_changeOn 12 = .ok (.getfield 32, 3) := by decide +kernel
theorem dX5_changeOn_15 : decode cX5_changeOn 15 = .ok (.iload_n 3, 1) := by decide +kernel
theorem dX5_changeOn_16 : decode cX5_changeOn 16 = .ok (.iaload, 1) := by decide +kernel
theorem dX5_changeOn_17 : decode cX5_changeOn 17 = .ok (.iload_n 1, 1) := by decide +kernel
theorem dX5_changeOn_18 : decode cX5_changeOn 18 = .ok (.if_icmp .ne 13, 3) := by decide +kernel
theorem dX5_changeOn_21 : decode cX5_changeOn 21 = .ok (.aload_n 0, 1) := by decide +kernel
theorem dX5_changeOn_22 : decode cX5_changeOn 22 = .ok (.getfield 35, 3) := by decide +kernel
theorem dX5_changeOn_25 : decode cX5_changeOn 25 = .ok (.iload_n 3, 1) := by decide +kernel
theorem dX5_changeOn_26 : decode cX5_changeOn 26 = .ok (.iaload, 1) := by decide +kernel
theorem dX5_changeOn_27 : decode cX5_changeOn 27 = .ok (.iload_n 2, 1) := by decide +kernel
theorem dX5_changeOn_28 : decode cX5_changeOn 28 = .ok (.if_icmp .le 9, 3) := by decide +kernel
theorem dX5_changeOn_31 : decode cX5_changeOn 31 = .ok (.iinc 3 (-1), 3) := by decide +kernel
theorem dX5_changeOn_34 : decode cX5_changeOn 34 = .ok (.goto (-27), 3) := by decide +kernel
theorem dX5_changeOn_37 : decode cX5_changeOn 37 = .ok (.iload_n 3, 1) := by decide +kernel
theorem dX5_changeOn_38 : decode cX5_changeOn 38 = .ok (.ireturn, 1) := by decide +kernel
set_option maxRecDepth 20000 in
theorem ggX5_isSo_X5_changeOn : GoodIn wsX5_isSo wsX5_changeOn := goodIn_r _ [6, 7, 8, 9, 10, 11, 12, 13, 14, 15, 16, 17, 18, 19, 20, 21, 22, 23, 24, 25, 26, 27] (by decide +kernel) (by decide +kernel)
set_option maxRecDepth 20000 in
theorem gX5_isSo_X5_changeOn : GoodIn wsX5_isSo (wsV RX5 74 RX5 yX5_changeOn wsX5_changeOn) := goodIn_app (goodIn_of _ (by decide +kernel)) ggX5_isSo_X5_changeOn
theorem dX5_isSo_0 : decode cX5_isSo 0 = .ok (.aload_n 0, 1) := by decide +kernel
theorem dX5_isSo_1 : decode cX5_isSo 1 = .ok (.iload_n 1, 1) := by decide +kernel
theorem dX5_isSo_2 : decode cX5_isSo 2 = .ok (.iload_n 2, 1) := by decide +kernel
theorem dX5_isSo_3 : decode cX5_isSo 3 = .ok (.invokevirtual 74, 3) := by decide +kernel
theorem dX5_isSo_6 : decode cX5_isSo 6 = .ok (.istore_n 3, 1) := by decide +kernel
theorem dX5_isSo_7 : decode cX5_isSo 7 = .ok (.iload_n 3, 1) := by decide +kernel
theorem dX5_isSo_8 : decode cX5_isSo 8 = .ok (.iconst (-1), 1) := by decide +kernel
theorem dX5_isSo_9 : decode cX5_isSo 9 = .ok (.if_icmp .eq 16, 3) := by decide +kernel
theorem dX5_isSo_12 : decode cX5_isSo 12 = .ok (.aload_n 0, 1) := by decide +kernel
theorem dX5_isSo_13 : decode cX5_isSo 13 = .ok (.getfield 38, 3) := by decide +kernel
theorem dX5_isSo_16 : decode cX5_isSo 16 = .ok (.iload_n 3, 1) := by decide +kernel
theorem dX5_isSo_17 : decode cX5_isSo 17 = .ok (.baload, 1) := by decide +kernel
theorem dX5_isSo_18 : decode cX5_isSo 18 = .ok (.ifCond .eq 7, 3) := by decide +kernel
theorem dX5_isSo_21 : decode cX5_isSo 21 = .ok (.iconst 1, 1) := by decide +kernel
theorem dX5_isSo_22 : decode cX5_isSo 22 = .ok (.goto 4, 3) := by decide +kernel
theorem dX5_isSo_25 : decode cX5_isSo 25 = .ok (.iconst 0, 1) := by decide +kernel
theorem dX5_isSo_26 : decode cX5_isSo 26 = .ok (.ireturn, 1) := by decide +kernel
set_option maxRecDepth 20000 in
theorem ggX5_notes_X5_changeOn : GoodIn wsX5_notes wsX5_changeOn := goodIn_r _ [13, 4, 5, 3, 14, 15, 16, 17, 18, 19, 20, 21, 22, 23, 24, 25, 26, 27, 28, 29, 30, 31] (by decide +kernel) (by decide +kernel)
set_option maxRecDepth 20000 in
theorem gX5_notes_X5_changeOn : GoodIn wsX5_notes (wsV RX5 74 RX5 yX5_changeOn wsX5_changeOn) := goodIn_app (goodIn_of _ (by decide +kernel)) ggX5_notes_X5_changeOn
theorem dX5_notes_0 : decode cX5_notes 0 = .ok (.aload_n 0, 1) := by decide +kernel
theorem dX5_notes_1 : decode cX5_notes 1 = .ok (.iload_n 1, 1) := by decide +kernel
theorem dX5_notes_2 : decode cX5_notes 2 = .ok (.aload_n 0, 1) := by decide +kernel
theorem dX5_notes_3 : decode cX5_notes 3 = .ok (.getfield 78, 3) := by decide +kernel
theorem dX5_notes_6 : decode cX5_notes 6 = .ok (.invokevirtual 74, 3) := by decide +kernel
theorem dX5_notes_9 : decode cX5_notes 9 = .ok (.istore 6, 2) := by decide +kernel
theorem dX5_notes_11 : decode cX5_notes 11 = .ok (.iload 6, 2) := by decide +kernel
theorem dX5_notes_13 : decode cX5_notes 13 = .ok (.iconst (-1), 1) := by decide +kernel
theorem dX5_notes_14 : decode cX5_notes 14 = .ok (.if_icmp .eq 17, 3) := by decide +kernel
theorem dX5_notes_17 : decode cX5_notes 17 = .ok (.aload_n 0, 1) := by decide +kernel
theorem dX5_notes_18 : decode cX5_notes 18 = .ok (.getfield 38, 3) := by decide +kernel
theorem dX5_notes_21 : decode cX5_notes 21 = .ok (.iload 6, 2) := by decide +kernel
theorem dX5_notes_23 : decode cX5_notes 23 = .ok (.baload, 1) := by decide +kernel
theorem dX5_notes_24 : decode cX5_notes 24 = .ok (.ifCond .eq 7, 3) := by decide +kernel
theorem dX5_notes_27 : decode cX5_notes 27 = .ok (.iconst 1, 1) := by decide +kernel
theorem dX5_notes_28 : decode cX5_notes 28 = .ok (.goto 4, 3) := by decide +kernel
theorem dX5_notes_31 : decode cX5_notes 31 = .ok (.iconst 0, 1) := by decide +kernel
theorem dX5_notes_32 : decode cX5_notes 32 = .ok (.istore 7, 2) := by decide +kernel
theorem dX5_notes_34 : decode cX5_notes 34 = .ok (.iload 6, 2) := by decide +kernel
theorem dX5_notes_36 : decode cX5_notes 36 = .ok (.iconst (-1), 1) := by decide +kernel
theorem dX5_notes_37 : decode cX5_notes 37 = .ok (.if_icmp .eq 22, 3) := by decide +kernel
theorem dX5_notes_40 : decode cX5_notes 40 = .ok (.aload_n 0, 1) := by decide +kernel
theorem dX5_notes_41 : decode cX5_notes 41 = .ok (.getfield 35, 3) := by decide +kernel
theorem dX5_notes_44 : decode cX5_notes 44 = .ok (.iload 6, 2) := by decide +kernel
theorem dX5_notes_46 : decode cX5_notes 46 = .ok (.iaload, 1) := by decide +kernel
theorem dX5_notes_47 : decode cX5_notes 47 = .ok (.aload_n 0, 1) := by decide +kernel
theorem dX5_notes_48 : decode cX5_notes 48 = .ok (.getfield 78, 3) := by decide +kernel
theorem dX5_notes_51 : decode cX5_notes 51 = .ok (.if_icmp .ne 8, 3) := by decide +kernel
theorem dX5_notes_54 : decode cX5_notes 54 = .ok (.iload 6, 2) := by decide +kernel
theorem dX5_notes_56 : decode cX5_notes 56 = .ok (.goto 7, 3) := by decide +kernel
theorem dX5_notes_59 : decode cX5_notes 59 = .ok (.aload_n 0, 1) := by decide +kernel
theorem dX5_notes_60 : decode cX5_notes 60 = .ok (.getfield 71, 3) := by decide +kernel
theorem dX5_notes_63 : decode cX5_notes 63 = .ok (.istore 8, 2) := by decide +kernel
theorem dX5_notes_65 : decode cX5_notes 65 = .ok (.aload_n 0, 1) := by decide +kernel
theorem dX5_notes_66 : decode cX5_notes 66 = .ok (.dup, 1) := by decide +kernel
theorem dX5_notes_67 : decode cX5_notes 67 = .ok (.getfield 71, 3) := by decide +kernel
theorem dX5_notes_70 : decode cX5_notes 70 = .ok (.iload 8, 2) := by decide +kernel
theorem dX5_notes_72 : decode cX5_notes 72 = .ok (.aload_n 0, 1) := by decide +kernel
theorem dX5_notes_73 : decode cX5_notes 73 = .ok (.getfield 71, 3) := by decide +kernel
theorem dX5_notes_76 : decode cX5_notes 76 = .ok (.if_icmp .ne 7, 3) := by decide +kernel
theorem dX5_notes_79 : decode cX5_notes 79 = .ok (.iconst 1, 1) := by decide +kernel
theorem dX5_notes_80 : decode cX5_notes 80 = .ok (.goto 4, 3) := by decide +kernel
theorem dX5_notes_83 : decode cX5_notes 83 = .ok (.iconst 0, 1) := by decide +kernel
theorem dX5_notes_84 : decode cX5_notes 84 = .ok (.iadd, 1) := by decide +kernel
theorem dX5_notes_85 : decode cX5_notes 85 = .ok (.putfield 71, 3) := by decide +kernel
theorem dX5_notes_88 : decode cX5_notes 88 = .ok (.aload_n 0, 1) := by decide +kernel
theorem dX5_notes_89 : decode cX5_notes 89 = .ok (.getfield 32, 3) := by decide +kernel
theorem dX5_notes_92 : decode cX5_notes 92 = .ok (.iload 8, 2) := by decide +kernel
theorem dX5_notes_94 : decode cX5_notes 94 = .ok (.iload_n 1, 1) := by decide +kernel
theorem dX5_notes_95 : decode cX5_notes 95 = .ok (.iastore, 1) := by decide +kernel
theorem dX5_notes_96 : decode cX5_notes 96 = .ok (.aload_n 0, 1) := by decide +kernel
theorem dX5_notes_97 : decode cX5_notes 97 = .ok (.getfield 35, 3) := by decide +kernel
theorem dX5_notes_100 : decode cX5_notes 100 = .ok (.iload 8, 2) := by decide +kernel
theorem dX5_notes_102 : decode cX5_notes 102 = .ok (.aload_n 0, 1) := by decide +kernel
theorem dX5_notes_103 : decode cX5_notes 103 = .ok (.getfield 78, 3) := by decide +kernel
theorem dX5_notes_106 : decode cX5_notes 106 = .ok (.iastore, 1) := by decide +kernel
theorem dX5_notes_107 : decode cX5_notes 107 = .ok (.aload_n 0, 1) := by decide +kernel
theorem dX5_notes_108 : decode cX5_notes 108 = .ok (.getfield 38, 3) := by decide +kernel
theorem dX5_notes_111 : decode cX5_notes 111 = .ok (.iload 8, 2) := by decide +kernel
theorem dX5_notes_113 : decode cX5_notes 113 = .ok (.iload_n 2, 1) := by decide +kernel
theorem dX5_notes_114 : decode cX5_notes 114 = .ok (.bastore, 1) := by decide +kernel
theorem dX5_notes_115 : decode cX5_notes 115 = .ok (.aload_n 0, 1) := by decide +kernel
theorem dX5_notes_116 : decode cX5_notes 116 = .ok (.getfield 41, 3) := by decide +kernel
theorem dX5_notes_119 : decode cX5_notes 119 = .ok (.iload 8, 2) := by decide +kernel
theorem dX5_notes_121 : decode cX5_notes 121 = .ok (.iload_n 3, 1) := by decide +kernel
theorem dX5_notes_122 : decode cX5_notes 122 = .ok (.iastore, 1) := by decide +kernel
theorem dX5_notes_123 : decode cX5_notes 123 = .ok (.aload_n 0, 1) := by decide +kernel
theorem dX5_notes_124 : decode cX5_notes 124 = .ok (.getfield 44, 3) := by decide +kernel
theorem dX5_notes_127 : decode cX5_notes 127 = .ok (.iload 8, 2) := by decide +kernel
theorem dX5_notes_129 : decode cX5_notes 129 = .ok (.iload 4, 2) := by decide +kernel
theorem dX5_notes_131 : decode cX5_notes 131 = .ok (.iastore, 1) := by decide +kernel
theorem dX5_notes_132 : decode cX5_notes 132 = .ok (.aload_n 0, 1) := by decide +kernel
theorem dX5_notes_133 : decode cX5_notes 133 = .ok (.getfield 47, 3) := by decide +kernel
theorem dX5_notes_136 : decode cX5_notes 136 = .ok (.iload 8, 2) := by decide +kernel
theorem dX5_notes_138 : decode cX5_notes 138 = .ok (.iload 5, 2) := by decide +kernel
theorem dX5_notes_140 : decode cX5_notes 140 = .ok (.iastore, 1) := by decide +kernel
theorem dX5_notes_141 : decode cX5_notes 141 = .ok (.iload 7, 2) := by decide +kernel
theorem dX5_notes_143 : decode cX5_notes 143 = .ok (.ireturn, 1) := by decide +kernel
theorem dX5_subscription_0 : decode cX5_subscription 0 = .ok (.bipush 21, 2) := by decide +kernel
theorem dX5_subscription_2 : decode cX5_subscription 2 = .ok (.iload_n 0, 1) := by decide +kernel
theorem dX5_subscription_3 : decode cX5_subscription 3 = .ok (.imul, 1) := by decide +kernel
theorem dX5_subscription_4 : decode cX5_subscription 4 = .ok (.bipush 20, 2) := by decide +kernel
theorem dX5_subscription_6 : decode cX5_subscription 6 = .ok (.iadd, 1) := by decide +kernel
theorem dX5_subscription_7 : decode cX5_subscription 7 = .ok (.ireturn, 1) := by decide +kernel
set_option maxRecDepth 20000 in
theorem ggX5_subscribe_X5_isPackage : GoodIn wsX5_subscribe wsX5_isPackage := goodIn_r _ [5, 6, 31, 32, 33, 34, 35, 36, 37, 38, 39, 40, 41, 42, 43, 44, 45, 46, 47, 48] (by decide +kernel) (by decide +kernel)
set_option maxRecDepth 20000 in
theorem gX5_subscribe_X5_isPackage : GoodIn wsX5_subscribe (wsV RX5 81 RX5 yX5_isPackage wsX5_isPackage) := goodIn_app (goodIn_of _ (by decide +kernel)) ggX5_subscribe_X5_isPackage
set_option maxRecDepth 20000 in
theorem ggX5_subscribe_X5_holds : GoodIn wsX5_subscribe wsX5_holds := goodIn_r _ [10, 11, 31, 32, 33, 34, 35, 36, 37, 38, 39, 40, 41, 42, 43, 44, 45, 46, 47, 48] (by decide +kernel) (by decide +kernel)
set_option maxRecDepth 20000 in
theorem gX5_subscribe_X5_holds : GoodIn wsX5_subscribe (wsV RX5 64 RX5 yX5_holds wsX5_holds) := goodIn_app (goodIn_of _ (by decide +kernel)) ggX5_subscribe_X5_holds
set_option maxRecDepth 20000 in
theorem ggX5_subscribe_X5_subscription : GoodIn wsX5_subscribe wsX5_subscription := goodIn_r _ [14] (by decide +kernel) (by decide +kernel)
set_option maxRecDepth 20000 in
theorem gX5_subscribe_X5_subscription : GoodIn wsX5_subscribe (va_wsS RX5 84 yX5_subscription wsX5_subscription) := goodIn_app (goodIn_of _ (by decide +kernel)) ggX5_subscribe_X5_subscription
set_option maxRecDepth 20000 in
theorem ggX5_subscribe_X5_notes : GoodIn wsX5_subscribe wsX5_notes := goodIn_r _ [18, 19, 20, 21, 22, 23, 24, 25, 26, 27, 28, 29, 4, 30, 31, 32, 33, 34, 35, 36, 37, 38, 39, 40, 41, 42, 43, 44, 45, 46, 47, 48] (by decide +kernel) (by decide +kernel)
set_option maxRecDepth 20000 in
theorem gX5_subscribe_X5_notes : GoodIn wsX5_subscribe (wsV RX5 88 RX5 yX5_notes wsX5_notes) := goodIn_app (goodIn_of _ (by decide +kernel)) ggX5_subscribe_X5_notes
theorem dX5_subscribe_0 : decode cX5_subscribe 0 = .ok (.aload_n 0, 1) := by decide +kernel
theorem dX5_subscribe_1 : decode cX5_subscribe 1 = .ok (.aload_n 0, 1) := by decide +kernel
theorem dX5_subscribe_2 : decode cX5_subscribe 2 = .ok (.iload_n 1, 1) := by decide +kernel
theorem dX5_subscribe_3 : decode cX5_subscribe 3 = .ok (.invokevirtual 81, 3) := by decide +kernel
theorem dX5_subscribe_6 : decode cX5_subscribe 6 = .ok (.ifCond .eq 7, 3) := by decide +kernel
theorem dX5_subscribe_9 : decode cX5_subscribe 9 = .ok (.iconst 0, 1) := by decide +kernel
theorem dX5_subscribe_10 : decode cX5_subscribe 10 = .ok (.goto 4, 3) := by decide +kernel
theorem dX5_subscribe_13 : decode cX5_subscribe 13 = .ok (.iconst 1, 1) := by decide +kernel
theorem dX5_subscribe_14 : decode cX5_subscribe 14 = .ok (.invokevirtual 64, 3) := by decide +kernel
theorem dX5_subscribe_17 : decode cX5_subscribe 17 = .ok (.ifCond .eq 22, 3) := by decide +kernel
theorem dX5_subscribe_20 : decode cX5_subscribe 20 = .ok (.aload_n 0, 1) := by decide +kernel
theorem dX5_subscribe_21 : decode cX5_subscribe 21 = .ok (.iload_n 1, 1) := by decide +kernel
theorem dX5_subscribe_22 : decode cX5_subscribe 22 = .ok (.invokestatic 84, 3) := by decide +kernel
theorem dX5_subscribe_25 : decode cX5_subscribe 25 = .ok (.iload_n 2, 1) := by decide +kernel
theorem dX5_subscribe_26 : decode cX5_subscribe 26 = .ok (.iconst 0, 1) := by decide +kernel
theorem dX5_subscribe_27 : decode cX5_subscribe 27 = .ok (.iconst 0, 1) := by decide +kernel
theorem dX5_subscribe_28 : decode cX5_subscribe 28 = .ok (.iconst 0, 1) := by decide +kernel
theorem dX5_subscribe_29 : decode cX5_subscribe 29 = .ok (.invokevirtual 88, 3) := by decide +kernel
theorem dX5_subscribe_32 : decode cX5_subscribe 32 = .ok (.ifCond .eq 7, 3) := by decide +kernel
theorem dX5_subscribe_35 : decode cX5_subscribe 35 = .ok (.iconst 1, 1) := by decide +kernel
theorem dX5_subscribe_36 : decode cX5_subscribe 36 = .ok (.goto 4, 3) := by decide +kernel
theorem dX5_subscribe_39 : decode cX5_subscribe 39 = .ok (.iconst 0, 1) := by decide +kernel
theorem dX5_subscribe_40 : decode cX5_subscribe 40 = .ok (.ireturn, 1) := by decide +kernel
set_option maxRecDepth 20000 in
theorem ggX5_come_X5_isPackage : GoodIn wsX5_come wsX5_isPackage := goodIn_r _ [5, 6, 36, 37, 38, 39, 40, 41, 42, 43, 44, 45, 46, 47, 48, 49, 50, 51, 52, 53] (by decide +kernel) (by decide +kernel)
set_option maxRecDepth 20000 in
theorem gX5_come_X5_isPackage : GoodIn wsX5_come (wsV RX5 81 RX5 yX5_isPackage wsX5_isPackage) := goodIn_app (goodIn_of _ (by decide +kernel)) ggX5_come_X5_isPackage
set_option maxRecDepth 20000 in
theorem ggX5_come_X5_isTitle : GoodIn wsX5_come wsX5_isTitle := goodIn_r _ [10, 11, 36, 37, 38, 39, 40, 41, 42, 43, 44, 45, 46, 47, 48, 49, 50, 51, 52, 53] (by decide +kernel) (by decide +kernel)
set_option maxRecDepth 20000 in
theorem gX5_come_X5_isTitle : GoodIn wsX5_come (wsV RX5 68 RX5 yX5_isTitle wsX5_isTitle) := goodIn_app (goodIn_of _ (by decide +kernel)) ggX5_come_X5_isTitle
set_option maxRecDepth 20000 in
theorem ggX5_come_X5_isBetween : GoodIn wsX5_come wsX5_isBetween := goodIn_r _ [14] (by decide +kernel) (by decide +kernel)
set_option maxRecDepth 20000 in
theorem gX5_come_X5_isBetween : GoodIn wsX5_come (va_wsS RX5 60 yX5_isBetween wsX5_isBetween) := goodIn_app (goodIn_of _ (by decide +kernel)) ggX5_come_X5_isBetween
set_option maxRecDepth 20000 in
theorem ggX5_come_X5_holds : GoodIn wsX5_come wsX5_holds := goodIn_r _ [18, 19, 36, 37, 38, 39, 40, 41, 42, 43, 44, 45, 46, 47, 48, 49, 50, 51, 52, 53] (by decide +kernel) (by decide +kernel)
set_option maxRecDepth 20000 in
theorem gX5_come_X5_holds : GoodIn wsX5_come (wsV RX5 64 RX5 yX5_holds wsX5_holds) := goodIn_app (goodIn_of _ (by decide +kernel)) ggX5_come_X5_holds
set_option maxRecDepth 20000 in
theorem ggX5_come_X5_notes : GoodIn wsX5_come wsX5_notes := goodIn_r _ [23, 24, 25, 26, 27, 28, 29, 30, 31, 32, 33, 34, 4, 35, 36, 37, 38, 39, 40, 41, 42, 43, 44, 45, 46, 47, 48, 49, 50, 51, 52, 53] (by decide +kernel) (by decide +kernel)
set_option maxRecDepth 20000 in
theorem gX5_come_X5_notes : GoodIn wsX5_come (wsV RX5 88 RX5 yX5_notes wsX5_notes) := goodIn_app (goodIn_of _ (by decide +kernel)) ggX5_come_X5_notes
theorem dX5_come_0 : decode cX5_come 0 = .ok (.aload_n 0, 1) := by decide +kernel
theorem dX5_come_1 : decode cX5_come 1 = .ok (.iload_n 1, 1) := by decide +kernel
theorem dX5_come_2 : decode cX5_come 2 = .ok (.invokevirtual 81, 3) := by decide +kernel
theorem dX5_come_5 : decode cX5_come 5 = .ok (.ifCond .eq 15, 3) := by decide +kernel
theorem dX5_come_8 : decode cX5_come 8 = .ok (.aload_n 0, 1) := by decide +kernel
theorem dX5_come_9 : decode cX5_come 9 = .ok (.iload_n 2, 1) := by decide +kernel
theorem dX5_come_10 : decode cX5_come 10 = .ok (.invokevirtual 68, 3) := by decide +kernel
theorem dX5_come_13 : decode cX5_come 13 = .ok (.ifCond .eq 7, 3) := by decide +kernel
theorem dX5_come_16 : decode cX5_come 16 = .ok (.iconst 1, 1) := by decide +kernel
theorem dX5_come_17 : decode cX5_come 17 = .ok (.goto 4, 3) := by decide +kernel
theorem dX5_come_20 : decode cX5_come 20 = .ok (.iconst 0, 1) := by decide +kernel
theorem dX5_come_21 : decode cX5_come 21 = .ok (.istore 6, 2) := by decide +kernel
theorem dX5_come_23 : decode cX5_come 23 = .ok (.iload_n 3, 1) := by decide +kernel
theorem dX5_come_24 : decode cX5_come 24 = .ok (.iconst 0, 1) := by decide +kernel
theorem dX5_come_25 : decode cX5_come 25 = .ok (.bipush 55, 2) := by decide +kernel
theorem dX5_come_27 : decode cX5_come 27 = .ok (.invokestatic 60, 3) := by decide +kernel
theorem dX5_come_30 : decode cX5_come 30 = .ok (.ifCond .eq 29, 3) := by decide +kernel
theorem dX5_come_33 : decode cX5_come 33 = .ok (.iload 4, 2) := by decide +kernel
theorem dX5_come_35 : decode cX5_come 35 = .ok (.iload_n 3, 1) := by decide +kernel
theorem dX5_come_36 : decode cX5_come 36 = .ok (.bipush 55, 2) := by decide +kernel
theorem dX5_come_38 : decode cX5_come 38 = .ok (.invokestatic 60, 3) := by decide +kernel
theorem dX5_come_41 : decode cX5_come 41 = .ok (.ifCond .eq 18, 3) := by decide +kernel
theorem dX5_come_44 : decode cX5_come 44 = .ok (.iload 5, 2) := by decide +kernel
theorem dX5_come_46 : decode cX5_come 46 = .ok (.iconst 0, 1) := by decide +kernel
theorem dX5_come_47 : decode cX5_come 47 = .ok (.bipush 20, 2) := by decide +kernel
theorem dX5_come_49 : decode cX5_come 49 = .ok (.invokestatic 60, 3) := by decide +kernel
theorem dX5_come_52 : decode cX5_come 52 = .ok (.ifCond .eq 7, 3) := by decide +kernel
theorem dX5_come_55 : decode cX5_come 55 = .ok (.iconst 1, 1) := by decide +kernel
theorem dX5_come_56 : decode cX5_come 56 = .ok (.goto 4, 3) := by decide +kernel
theorem dX5_come_59 : decode cX5_come 59 = .ok (.iconst 0, 1) := by decide +kernel
theorem dX5_come_60 : decode cX5_come 60 = .ok (.istore 7, 2) := by decide +kernel
theorem dX5_come_62 : decode cX5_come 62 = .ok (.aload_n 0, 1) := by decide +kernel
theorem dX5_come_63 : decode cX5_come 63 = .ok (.iload 6, 2) := by decide +kernel
theorem dX5_come_65 : decode cX5_come 65 = .ok (.ifCond .ne 7, 3) := by decide +kernel
theorem dX5_come_68 : decode cX5_come 68 = .ok (.iconst 1, 1) := by decide +kernel
theorem dX5_come_69 : decode cX5_come 69 = .ok (.goto 13, 3) := by decide +kernel
theorem dX5_come_72 : decode cX5_come 72 = .ok (.iload 7, 2) := by decide +kernel
theorem dX5_come_74 : decode cX5_come 74 = .ok (.ifCond .eq 7, 3) := by decide +kernel
theorem dX5_come_77 : decode cX5_come 77 = .ok (.iconst 0, 1) := by decide +kernel
theorem dX5_come_78 : decode cX5_come 78 = .ok (.goto 4, 3) := by decide +kernel
theorem dX5_come_81 : decode cX5_come 81 = .ok (.iconst 2, 1) := by decide +kernel
theorem dX5_come_82 : decode cX5_come 82 = .ok (.invokevirtual 64, 3) := by decide +kernel
theorem dX5_come_85 : decode cX5_come 85 = .ok (.ifCond .eq 26, 3) := by decide +kernel
theorem dX5_come_88 : decode cX5_come 88 = .ok (.aload_n 0, 1) := by decide +kernel
theorem dX5_come_89 : decode cX5_come 89 = .ok (.bipush 21, 2) := by decide +kernel
theorem dX5_come_91 : decode cX5_come 91 = .ok (.iload_n 1, 1) := by decide +kernel
theorem dX5_come_92 : decode cX5_come 92 = .ok (.imul, 1) := by decide +kernel
theorem dX5_come_93 : decode cX5_come 93 = .ok (.iload_n 2, 1) := by decide +kernel
theorem dX5_come_94 : decode cX5_come 94 = .ok (.iadd, 1) := by decide +kernel
theorem dX5_come_95 : decode cX5_come 95 = .ok (.iconst 1, 1) := by decide +kernel
theorem dX5_come_96 : decode cX5_come 96 = .ok (.iload_n 3, 1) := by decide +kernel
theorem dX5_come_97 : decode cX5_come 97 = .ok (.iload 4, 2) := by decide +kernel
theorem dX5_come_99 : decode cX5_come 99 = .ok (.iload 5, 2) := by decide +kernel
theorem dX5_come_101 : decode cX5_come 101 = .ok (.invokevirtual 88, 3) := by decide +kernel
theorem dX5_come_104 : decode cX5_come 104 = .ok (.ifCond .eq 7, 3) := by decide +kernel
theorem dX5_come_107 : decode cX5_come 107 = .ok (.iconst 1, 1) := by decide +kernel
theorem dX5_come_108 : decode cX5_come 108 = .ok (.goto 4, 3) := by decide +kernel
theorem dX5_come_111 : decode cX5_come 111 = .ok (.iconst 0, 1) := by decide +kernel
theorem dX5_come_112 : decode cX5_come 112 = .ok (.ireturn, 1) := by decide +kernel
set_option maxRecDepth 20000 in
theorem ggX5_go_X5_isPackage : GoodIn wsX5_go wsX5_isPackage := goodIn_r _ [6, 7, 37, 38, 39, 40, 41, 42, 43, 44, 45, 46, 47, 48, 49, 50, 51, 52, 53, 54] (by decide +kernel) (by decide +kernel)
set_option maxRecDepth 20000 in
theorem gX5_go_X5_isPackage : GoodIn wsX5_go (wsV RX5 81 RX5 yX5_isPackage wsX5_isPackage) := goodIn_app (goodIn_of _ (by decide +kernel)) ggX5_go_X5_isPackage
set_option maxRecDepth 20000 in
theorem ggX5_go_X5_isTitle : GoodIn wsX5_go wsX5_isTitle := goodIn_r _ [11, 12, 37, 38, 39, 40, 41, 42, 43, 44, 45, 46, 47, 48, 49, 50, 51, 52, 53, 54] (by decide +kernel) (by decide +kernel)
set_option maxRecDepth 20000 in
theorem gX5_go_X5_isTitle : GoodIn wsX5_go (wsV RX5 68 RX5 yX5_isTitle wsX5_isTitle) := goodIn_app (goodIn_of _ (by decide +kernel)) ggX5_go_X5_isTitle
set_option maxRecDepth 20000 in
theorem ggX5_go_X5_isSo : GoodIn wsX5_go wsX5_isSo := goodIn_r _ [16, 17, 18, 19, 20, 5, 21, 22, 23, 24, 37, 38, 39, 40, 41, 42, 43, 44, 45, 46, 47, 48, 49, 50, 51, 52, 53, 54] (by decide +kernel) (by decide +kernel)
set_option maxRecDepth 20000 in
theorem gX5_go_X5_isSo : GoodIn wsX5_go (wsV RX5 92 RX5 yX5_isSo wsX5_isSo) := goodIn_app (goodIn_of _ (by decide +kernel)) ggX5_go_X5_isSo
set_option maxRecDepth 20000 in
theorem ggX5_go_X5_holds : GoodIn wsX5_go wsX5_holds := goodIn_r _ [28, 29, 37, 38, 39, 40, 41, 42, 43, 44, 45, 46, 47, 48, 49, 50, 51, 52, 53, 54] (by decide +kernel) (by decide +kernel)
set_option maxRecDepth 20000 in
theorem gX5_go_X5_holds : GoodIn wsX5_go (wsV RX5 64 RX5 yX5_holds wsX5_holds) := goodIn_app (goodIn_of _ (by decide +kernel)) ggX5_go_X5_holds
set_option maxRecDepth 20000 in
theorem ggX5_go_X5_notes : GoodIn wsX5_go wsX5_notes := goodIn_r _ [33, 1, 17, 24, 22, 23, 34, 35, 36, 18, 19, 20, 5, 21, 37, 38, 39, 40, 41, 42, 43, 44, 45, 46, 47, 48, 49, 50, 51, 52, 53, 54] (by decide +kernel) (by decide +kernel)
set_option maxRecDepth 20000 in
theorem gX5_go_X5_notes : GoodIn wsX5_go (wsV RX5 88 RX5 yX5_notes wsX5_notes) := goodIn_app (goodIn_of _ (by decide +kernel)) ggX5_go_X5_notes
theorem dX5_go_0 : decode cX5_go 0 = .ok (.aload_n 0, 1) := by decide +kernel
theorem dX5_go_1 : decode cX5_go 1 = .ok (.iload_n 1, 1) := by decide +kernel
theorem dX5_go_2 : decode cX5_go 2 = .ok (.invokevirtual 81, 3) := by decide +kernel
theorem dX5_go_5 : decode cX5_go 5 = .ok (.ifCond .eq 15, 3) := by decide +kernel
theorem dX5_go_8 : decode cX5_go 8 = .ok (.aload_n 0, 1) := by decide +kernel
theorem dX5_go_9 : decode cX5_go 9 = .ok (.iload_n 2, 1) := by decide +kernel
theorem dX5_go_10 : decode cX5_go 10 = .ok (.invokevirtual 68, 3) := by decide +kernel
theorem dX5_go_13 : decode cX5_go 13 = .ok (.ifCond .eq 7, 3) := by decide +kernel
theorem dX5_go_16 : decode cX5_go 16 = .ok (.iconst 1, 1) := by decide +kernel
theorem dX5_go_17 : decode cX5_go 17 = .ok (.goto 4, 3) := by decide +kernel
theorem dX5_go_20 : decode cX5_go 20 = .ok (.iconst 0, 1) := by decide +kernel
theorem dX5_go_21 : decode cX5_go 21 = .ok (.istore_n 3, 1) := by decide +kernel
theorem dX5_go_22 : decode cX5_go 22 = .ok (.aload_n 0, 1) := by decide +kernel
theorem dX5_go_23 : decode cX5_go 23 = .ok (.iload_n 3, 1) := by decide +kernel
theorem dX5_go_24 : decode cX5_go 24 = .ok (.ifCond .ne 7, 3) := by decide +kernel
theorem dX5_go_27 : decode cX5_go 27 = .ok (.iconst 1, 1) := by decide +kernel
theorem dX5_go_28 : decode cX5_go 28 = .ok (.goto 25, 3) := by decide +kernel
theorem dX5_go_31 : decode cX5_go 31 = .ok (.aload_n 0, 1) := by decide +kernel
theorem dX5_go_32 : decode cX5_go 32 = .ok (.bipush 21, 2) := by decide +kernel
theorem dX5_go_34 : decode cX5_go 34 = .ok (.iload_n 1, 1) := by decide +kernel
theorem dX5_go_35 : decode cX5_go 35 = .ok (.imul, 1) := by decide +kernel
theorem dX5_go_36 : decode cX5_go 36 = .ok (.iload_n 2, 1) := by decide +kernel
theorem dX5_go_37 : decode cX5_go 37 = .ok (.iadd, 1) := by decide +kernel
theorem dX5_go_38 : decode cX5_go 38 = .ok (.aload_n 0, 1) := by decide +kernel
theorem dX5_go_39 : decode cX5_go 39 = .ok (.getfield 78, 3) := by decide +kernel
theorem dX5_go_42 : decode cX5_go 42 = .ok (.invokevirtual 92, 3) := by decide +kernel
theorem dX5_go_45 : decode cX5_go 45 = .ok (.ifCond .eq 7, 3) := by decide +kernel
theorem dX5_go_48 : decode cX5_go 48 = .ok (.iconst 0, 1) := by decide +kernel
theorem dX5_go_49 : decode cX5_go 49 = .ok (.goto 4, 3) := by decide +kernel
theorem dX5_go_52 : decode cX5_go 52 = .ok (.iconst 2, 1) := by decide +kernel
theorem dX5_go_53 : decode cX5_go 53 = .ok (.invokevirtual 64, 3) := by decide +kernel
theorem dX5_go_56 : decode cX5_go 56 = .ok (.ifCond .eq 19, 3) := by decide +kernel
theorem dX5_go_59 : decode cX5_go 59 = .ok (.aload_n 0, 1) := by decide +kernel
theorem dX5_go_60 : decode cX5_go 60 = .ok (.bipush 21, 2) := by decide +kernel
theorem dX5_go_62 : decode cX5_go 62 = .ok (.iload_n 1, 1) := by decide +kernel
theorem dX5_go_63 : decode cX5_go 63 = .ok (.imul, 1) := by decide +kernel
theorem dX5_go_64 : decode cX5_go 64 = .ok (.iload_n 2, 1) := by decide +kernel
theorem dX5_go_65 : decode cX5_go 65 = .ok (.iadd, 1) := by decide +kernel
theorem dX5_go_66 : decode cX5_go 66 = .ok (.iconst 0, 1) := by decide +kernel
theorem dX5_go_67 : decode cX5_go 67 = .ok (.iconst 0, 1) := by decide +kernel
theorem dX5_go_68 : decode cX5_go 68 = .ok (.iconst 0, 1) := by decide +kernel
theorem dX5_go_69 : decode cX5_go 69 = .ok (.iconst 0, 1) := by decide +kernel
theorem dX5_go_70 : decode cX5_go 70 = .ok (.invokevirtual 88, 3) := by decide +kernel
theorem dX5_go_73 : decode cX5_go 73 = .ok (.istore 4, 2) := by decide +kernel
theorem dX5_go_75 : decode cX5_go 75 = .ok (.return_, 1) := by decide +kernel
set_option maxRecDepth 20000 in
theorem ggX5_pass_X5_isBetween : GoodIn wsX5_pass wsX5_isBetween := goodIn_r _ [5] (by decide +kernel) (by decide +kernel)
set_option maxRecDepth 20000 in
theorem gX5_pass_X5_isBetween : GoodIn wsX5_pass (va_wsS RX5 60 yX5_isBetween wsX5_isBetween) := goodIn_app (goodIn_of _ (by decide +kernel)) ggX5_pass_X5_isBetween
set_option maxRecDepth 20000 in
theorem ggX5_pass_X5_holds : GoodIn wsX5_pass wsX5_holds := goodIn_r _ [9, 10, 11, 12, 13, 14, 15, 16, 17, 18, 19, 20, 21, 22, 23, 24, 25, 26, 27, 28] (by decide +kernel) (by decide +kernel)
set_option maxRecDepth 20000 in
theorem gX5_pass_X5_holds : GoodIn wsX5_pass (wsV RX5 64 RX5 yX5_holds wsX5_holds) := goodIn_app (goodIn_of _ (by decide +kernel)) ggX5_pass_X5_holds
theorem dX5_pass_0 : decode cX5_pass 0 = .ok (.aload_n 0, 1) := by decide +kernel
theorem dX5_pass_1 : decode cX5_pass 1 = .ok (.iload_n 1, 1) := by decide +kernel
theorem dX5_pass_2 : decode cX5_pass 2 = .ok (.iconst 1, 1) := by decide +kernel
theorem dX5_pass_3 : decode cX5_pass 3 = .ok (.sipush 20000, 3) := by decide +kernel
theorem dX5_pass_6 : decode cX5_pass 6 = .ok (.invokestatic 60, 3) := by decide +kernel
theorem dX5_pass_9 : decode cX5_pass 9 = .ok (.ifCond .ne 7, 3) := by decide +kernel
theorem dX5_pass_12 : decode cX5_pass 12 = .ok (.iconst 1, 1) := by decide +kernel
theorem dX5_pass_13 : decode cX5_pass 13 = .ok (.goto 20, 3) := by decide +kernel
theorem dX5_pass_16 : decode cX5_pass 16 = .ok (.aload_n 0, 1) := by decide +kernel
theorem dX5_pass_17 : decode cX5_pass 17 = .ok (.getfield 78, 3) := by decide +kernel
theorem dX5_pass_20 : decode cX5_pass 20 = .ok (.iload_n 1, 1) := by decide +kernel
theorem dX5_pass_21 : decode cX5_pass 21 = .ok (.iadd, 1) := by decide +kernel
theorem dX5_pass_22 : decode cX5_pass 22 = .ok (.sipush 20000, 3) := by decide +kernel
theorem dX5_pass_25 : decode cX5_pass 25 = .ok (.if_icmp .le 7, 3) := by decide +kernel
theorem dX5_pass_28 : decode cX5_pass 28 = .ok (.iconst 2, 1) := by decide +kernel
theorem dX5_pass_29 : decode cX5_pass 29 = .ok (.goto 4, 3) := by decide +kernel
theorem dX5_pass_32 : decode cX5_pass 32 = .ok (.iconst 0, 1) := by decide +kernel
theorem dX5_pass_33 : decode cX5_pass 33 = .ok (.invokevirtual 64, 3) := by decide +kernel
theorem dX5_pass_36 : decode cX5_pass 36 = .ok (.ifCond .ne 5, 3) := by decide +kernel
theorem dX5_pass_39 : decode cX5_pass 39 = .ok (.iconst 0, 1) := by decide +kernel
theorem dX5_pass_40 : decode cX5_pass 40 = .ok (.ireturn, 1) := by decide +kernel
theorem dX5_pass_41 : decode cX5_pass 41 = .ok (.aload_n 0, 1) := by decide +kernel
theorem dX5_pass_42 : decode cX5_pass 42 = .ok (.dup, 1) := by decide +kernel
theorem dX5_pass_43 : decode cX5_pass 43 = .ok (.getfield 78, 3) := by decide +kernel
theorem dX5_pass_46 : decode cX5_pass 46 = .ok (.iload_n 1, 1) := by decide +kernel
theorem dX5_pass_47 : decode cX5_pass 47 = .ok (.iadd, 1) := by decide +kernel
theorem dX5_pass_48 : decode cX5_pass 48 = .ok (.putfield 78, 3) := by decide +kernel
theorem dX5_pass_51 : decode cX5_pass 51 = .ok (.aload_n 0, 1) := by decide +kernel
theorem dX5_pass_52 : decode cX5_pass 52 = .ok (.getfield 78, 3) := by decide +kernel
theorem dX5_pass_55 : decode cX5_pass 55 = .ok (.ireturn, 1) := by decide +kernel
theorem dX5_today_0 : decode cX5_today 0 = .ok (.aload_n 0, 1) := by decide +kernel
theorem dX5_today_1 : decode cX5_today 1 = .ok (.iconst 0, 1) := by decide +kernel
theorem dX5_today_2 : decode cX5_today 2 = .ok (.putfield 50, 3) := by decide +kernel
theorem dX5_today_5 : decode cX5_today 5 = .ok (.aload_n 0, 1) := by decide +kernel
theorem dX5_today_6 : decode cX5_today 6 = .ok (.getfield 78, 3) := by decide +kernel
theorem dX5_today_9 : decode cX5_today 9 = .ok (.ireturn, 1) := by decide +kernel
set_option maxRecDepth 20000 in
theorem ggX5_isSubscribed_X5_isPackage : GoodIn wsX5_isSubscribed wsX5_isPackage := goodIn_r _ [6, 7, 31, 32, 33, 34, 35, 36, 37, 38, 39, 40, 41, 42, 43, 44, 45, 46, 47, 48] (by decide +kernel) (by decide +kernel)
set_option maxRecDepth 20000 in
theorem gX5_isSubscribed_X5_isPackage : GoodIn wsX5_isSubscribed (wsV RX5 81 RX5 yX5_isPackage wsX5_isPackage) := goodIn_app (goodIn_of _ (by decide +kernel)) ggX5_isSubscribed_X5_isPackage
set_option maxRecDepth 20000 in
theorem ggX5_isSubscribed_X5_isBetween : GoodIn wsX5_isSubscribed wsX5_isBetween := goodIn_r _ [10] (by decide +kernel) (by decide +kernel)
set_option maxRecDepth 20000 in
theorem gX5_isSubscribed_X5_isBetween : GoodIn wsX5_isSubscribed (va_wsS RX5 60 yX5_isBetween wsX5_isBetween) := goodIn_app (goodIn_of _ (by decide +kernel)) ggX5_isSubscribed_X5_isBetween
set_option maxRecDepth 20000 in
theorem ggX5_isSubscribed_X5_holds : GoodIn wsX5_isSubscribed wsX5_holds := goodIn_r _ [14, 15, 31, 32, 33, 34, 35, 36, 37, 38, 39, 40, 41, 42, 43, 44, 45, 46, 47, 48] (by decide +kernel) (by decide +kernel)
set_option maxRecDepth 20000 in
theorem gX5_isSubscribed_X5_holds : GoodIn wsX5_isSubscribed (wsV RX5 64 RX5 yX5_holds wsX5_holds) := goodIn_app (goodIn_of _ (by decide +kernel)) ggX5_isSubscribed_X5_holds
set_option maxRecDepth 20000 in
theorem ggX5_isSubscribed_X5_subscription : GoodIn wsX5_isSubscribed wsX5_subscription := goodIn_r _ [18] (by decide +kernel) (by decide +kernel)
set_option maxRecDepth 20000 in
theorem gX5_isSubscribed_X5_subscription : GoodIn wsX5_isSubscribed (va_wsS RX5 84 yX5_subscription wsX5_subscription) := goodIn_app (goodIn_of _ (by decide +kernel)) ggX5_isSubscribed_X5_subscription
set_option maxRecDepth 20000 in
theorem ggX5_isSubscribed_X5_isSo : GoodIn wsX5_isSubscribed wsX5_isSo := goodIn_r _ [22, 23, 24, 25, 26, 5, 27, 28, 29, 30, 31, 32, 33, 34, 35, 36, 37, 38, 39, 40, 41, 42, 43, 44, 45, 46, 47, 48] (by decide +kernel) (by decide +kernel)
set_option maxRecDepth 20000 in
theorem gX5_isSubscribed_X5_isSo : GoodIn wsX5_isSubscribed (wsV RX5 92 RX5 yX5_isSo wsX5_isSo) := goodIn_app (goodIn_of _ (by decide +kernel)) ggX5_isSubscribed_X5_isSo
theorem dX5_isSubscribed_0 : decode cX5_isSubscribed 0 = .ok (.aload_n 0, 1) := by decide +kernel
theorem dX5_isSubscribed_1 : decode cX5_isSubscribed 1 = .ok (.aload_n 0, 1) := by decide +kernel
theorem dX5_isSubscribed_2 : decode cX5_isSubscribed 2 = .ok (.iload_n 1, 1) := by decide +kernel
theorem dX5_isSubscribed_3 : decode cX5_isSubscribed 3 = .ok (.invokevirtual 81, 3) := by decide +kernel
theorem dX5_isSubscribed_6 : decode cX5_isSubscribed 6 = .ok (.ifCond .ne 7, 3) := by decide +kernel
theorem dX5_isSubscribed_9 : decode cX5_isSubscribed 9 = .ok (.iconst 1, 1) := by decide +kernel
theorem dX5_isSubscribed_10 : decode cX5_isSubscribed 10 = .ok (.goto 20, 3) := by decide +kernel
theorem dX5_isSubscribed_13 : decode cX5_isSubscribed 13 = .ok (.iload_n 2, 1) := by decide +kernel
theorem dX5_isSubscribed_14 : decode cX5_isSubscribed 14 = .ok (.iconst 0, 1) := by decide +kernel
theorem dX5_isSubscribed_15 : decode cX5_isSubscribed 15 = .ok (.aload_n 0, 1) := by decide +kernel
theorem dX5_isSubscribed_16 : decode cX5_isSubscribed 16 = .ok (.getfield 78, 3) := by decide +kernel
theorem dX5_isSubscribed_19 : decode cX5_isSubscribed 19 = .ok (.invokestatic 60, 3) := by decide +kernel
theorem dX5_isSubscribed_22 : decode cX5_isSubscribed 22 = .ok (.ifCond .eq 7, 3) := by decide +kernel
theorem dX5_isSubscribed_25 : decode cX5_isSubscribed 25 = .ok (.iconst 0, 1) := by decide +kernel
theorem dX5_isSubscribed_26 : decode cX5_isSubscribed 26 = .ok (.goto 4, 3) := by decide +kernel
theorem dX5_isSubscribed_29 : decode cX5_isSubscribed 29 = .ok (.iconst 2, 1) := by decide +kernel
theorem dX5_isSubscribed_30 : decode cX5_isSubscribed 30 = .ok (.invokevirtual 64, 3) := by decide +kernel
theorem dX5_isSubscribed_33 : decode cX5_isSubscribed 33 = .ok (.ifCond .eq 19, 3) := by decide +kernel
theorem dX5_isSubscribed_36 : decode cX5_isSubscribed 36 = .ok (.aload_n 0, 1) := by decide +kernel
theorem dX5_isSubscribed_37 : decode cX5_isSubscribed 37 = .ok (.iload_n 1, 1) := by decide +kernel
theorem dX5_isSubscribed_38 : decode cX5_isSubscribed 38 = .ok (.invokestatic 84, 3) := by decide +kernel
theorem dX5_isSubscribed_41 : decode cX5_isSubscribed 41 = .ok (.iload_n 2, 1) := by decide +kernel
theorem dX5_isSubscribed_42 : decode cX5_isSubscribed 42 = .ok (.invokevirtual 92, 3) := by decide +kernel
theorem dX5_isSubscribed_45 : decode cX5_isSubscribed 45 = .ok (.ifCond .eq 7, 3) := by decide +kernel
theorem dX5_isSubscribed_48 : decode cX5_isSubscribed 48 = .ok (.iconst 1, 1) := by decide +kernel
theorem dX5_isSubscribed_49 : decode cX5_isSubscribed 49 = .ok (.goto 4, 3) := by decide +kernel
theorem dX5_isSubscribed_52 : decode cX5_isSubscribed 52 = .ok (.iconst 0, 1) := by decide +kernel
theorem dX5_isSubscribed_53 : decode cX5_isSubscribed 53 = .ok (.ireturn, 1) := by decide +kernel
set_option maxRecDepth 20000 in
theorem ggX5_isIn_X5_isPackage : GoodIn wsX5_isIn wsX5_isPackage := goodIn_r _ [6, 7, 33, 34, 35, 36, 37, 38, 39, 40, 41, 42, 43, 44, 45, 46, 47, 48, 49, 50] (by decide +kernel) (by decide +kernel)
set_option maxRecDepth 20000 in
theorem gX5_isIn_X5_isPackage : GoodIn wsX5_isIn (wsV RX5 81 RX5 yX5_isPackage wsX5_isPackage) := goodIn_app (goodIn_of _ (by decide +kernel)) ggX5_isIn_X5_isPackage
set_option maxRecDepth 20000 in
theorem ggX5_isIn_X5_isTitle : GoodIn wsX5_isIn wsX5_isTitle := goodIn_r _ [11, 12, 33, 34, 35, 36, 37, 38, 39, 40, 41, 42, 43, 44, 45, 46, 47, 48, 49, 50] (by decide +kernel) (by decide +kernel)
set_option maxRecDepth 20000 in
theorem gX5_isIn_X5_isTitle : GoodIn wsX5_isIn (wsV RX5 68 RX5 yX5_isTitle wsX5_isTitle) := goodIn_app (goodIn_of _ (by decide +kernel)) ggX5_isIn_X5_isTitle
set_option maxRecDepth 20000 in
theorem ggX5_isIn_X5_isBetween : GoodIn wsX5_isIn wsX5_isBetween := goodIn_r _ [15] (by decide +kernel) (by decide +kernel)
set_option maxRecDepth 20000 in
theorem gX5_isIn_X5_isBetween : GoodIn wsX5_isIn (va_wsS RX5 60 yX5_isBetween wsX5_isBetween) := goodIn_app (goodIn_of _ (by decide +kernel)) ggX5_isIn_X5_isBetween
set_option maxRecDepth 20000 in
theorem ggX5_isIn_X5_holds : GoodIn wsX5_isIn wsX5_holds := goodIn_r _ [19, 20, 33, 34, 35, 36, 37, 38, 39, 40, 41, 42, 43, 44, 45, 46, 47, 48, 49, 50] (by decide +kernel) (by decide +kernel)
set_option maxRecDepth 20000 in
theorem gX5_isIn_X5_holds : GoodIn wsX5_isIn (wsV RX5 64 RX5 yX5_holds wsX5_holds) := goodIn_app (goodIn_of _ (by decide +kernel)) ggX5_isIn_X5_holds
set_option maxRecDepth 20000 in
theorem ggX5_isIn_X5_isSo : GoodIn wsX5_isIn wsX5_isSo := goodIn_r _ [24, 25, 26, 27, 28, 5, 29, 30, 31, 32, 33, 34, 35, 36, 37, 38, 39, 40, 41, 42, 43, 44, 45, 46, 47, 48, 49, 50] (by decide +kernel) (by decide +kernel)
set_option maxRecDepth 20000 in
theorem gX5_isIn_X5_isSo : GoodIn wsX5_isIn (wsV RX5 92 RX5 yX5_isSo wsX5_isSo) := goodIn_app (goodIn_of _ (by decide +kernel)) ggX5_isIn_X5_isSo
theorem dX5_isIn_0 : decode cX5_isIn 0 = .ok (.aload_n 0, 1) := by decide +kernel
theorem dX5_isIn_1 : decode cX5_isIn 1 = .ok (.aload_n 0, 1) := by decide +kernel
theorem dX5_isIn_2 : decode cX5_isIn 2 = .ok (.iload_n 1, 1) := by decide +kernel
theorem dX5_isIn_3 : decode cX5_isIn 3 = .ok (.invokevirtual 81, 3) := by decide +kernel
theorem dX5_isIn_6 : decode cX5_isIn 6 = .ok (.ifCond .eq 11, 3) := by decide +kernel
theorem dX5_isIn_9 : decode cX5_isIn 9 = .ok (.aload_n 0, 1) := by decide +kernel
theorem dX5_isIn_10 : decode cX5_isIn 10 = .ok (.iload_n 2, 1) := by decide +kernel
theorem dX5_isIn_11 : decode cX5_isIn 11 = .ok (.invokevirtual 68, 3) := by decide +kernel
theorem dX5_isIn_14 : decode cX5_isIn 14 = .ok (.ifCond .ne 7, 3) := by decide +kernel
theorem dX5_isIn_17 : decode cX5_isIn 17 = .ok (.iconst 1, 1) := by decide +kernel
theorem dX5_isIn_18 : decode cX5_isIn 18 = .ok (.goto 20, 3) := by decide +kernel
theorem dX5_isIn_21 : decode cX5_isIn 21 = .ok (.iload_n 3, 1) := by decide +kernel
theorem dX5_isIn_22 : decode cX5_isIn 22 = .ok (.iconst 0, 1) := by decide +kernel
theorem dX5_isIn_23 : decode cX5_isIn 23 = .ok (.aload_n 0, 1) := by decide +kernel
theorem dX5_isIn_24 : decode cX5_isIn 24 = .ok (.getfield 78, 3) := by decide +kernel
theorem dX5_isIn_27 : decode cX5_isIn 27 = .ok (.invokestatic 60, 3) := by decide +kernel
theorem dX5_isIn_30 : decode cX5_isIn 30 = .ok (.ifCond .eq 7, 3) := by decide +kernel
theorem dX5_isIn_33 : decode cX5_isIn 33 = .ok (.iconst 0, 1) := by decide +kernel
theorem dX5_isIn_34 : decode cX5_isIn 34 = .ok (.goto 4, 3) := by decide +kernel
theorem dX5_isIn_37 : decode cX5_isIn 37 = .ok (.iconst 2, 1) := by decide +kernel
theorem dX5_isIn_38 : decode cX5_isIn 38 = .ok (.invokevirtual 64, 3) := by decide +kernel
theorem dX5_isIn_41 : decode cX5_isIn 41 = .ok (.ifCond .eq 21, 3) := by decide +kernel
theorem dX5_isIn_44 : decode cX5_isIn 44 = .ok (.aload_n 0, 1) := by decide +kernel
theorem dX5_isIn_45 : decode cX5_isIn 45 = .ok (.bipush 21, 2) := by decide +kernel
theorem dX5_isIn_47 : decode cX5_isIn 47 = .ok (.iload_n 1, 1) := by decide +kernel
theorem dX5_isIn_48 : decode cX5_isIn 48 = .ok (.imul, 1) := by decide +kernel
theorem dX5_isIn_49 : decode cX5_isIn 49 = .ok (.iload_n 2, 1) := by decide +kernel
theorem dX5_isIn_50 : decode cX5_isIn 50 = .ok (.iadd, 1) := by decide +kernel
theorem dX5_isIn_51 : decode cX5_isIn 51 = .ok (.iload_n 3, 1) := by decide +kernel
theorem dX5_isIn_52 : decode cX5_isIn 52 = .ok (.invokevirtual 92, 3) := by decide +kernel
theorem dX5_isIn_55 : decode cX5_isIn 55 = .ok (.ifCond .eq 7, 3) := by decide +kernel
theorem dX5_isIn_58 : decode cX5_isIn 58 = .ok (.iconst 1, 1) := by decide +kernel
theorem dX5_isIn_59 : decode cX5_isIn 59 = .ok (.goto 4, 3) := by decide +kernel
theorem dX5_isIn_62 : decode cX5_isIn 62 = .ok (.iconst 0, 1) := by decide +kernel
theorem dX5_isIn_63 : decode cX5_isIn 63 = .ok (.ireturn, 1) := by decide +kernel
set_option maxRecDepth 20000 in
theorem ggX5_report_X5_isPackage : GoodIn wsX5_report wsX5_isPackage := goodIn_r _ [6, 7, 18, 19, 20, 21, 22, 23, 24, 25, 26, 27, 28, 29, 30, 31, 32, 33, 34, 35] (by decide +kernel) (by decide +kernel)
set_option maxRecDepth 20000 in
theorem gX5_report_X5_isPackage : GoodIn wsX5_report (wsV RX5 81 RX5 yX5_isPackage wsX5_isPackage) := goodIn_app (goodIn_of _ (by decide +kernel)) ggX5_report_X5_isPackage
set_option maxRecDepth 20000 in
theorem ggX5_report_X5_isTitle : GoodIn wsX5_report wsX5_isTitle := goodIn_r _ [11, 12, 18, 19, 20, 21, 22, 23, 24, 25, 26, 27, 28, 29, 30, 31, 32, 33, 34, 35] (by decide +kernel) (by decide +kernel)
set_option maxRecDepth 20000 in
theorem gX5_report_X5_isTitle : GoodIn wsX5_report (wsV RX5 68 RX5 yX5_isTitle wsX5_isTitle) := goodIn_app (goodIn_of _ (by decide +kernel)) ggX5_report_X5_isTitle
set_option maxRecDepth 20000 in
theorem ggX5_report_X5_holds : GoodIn wsX5_report wsX5_holds := goodIn_r _ [16, 17, 18, 19, 20, 21, 22, 23, 24, 25, 26, 27, 28, 29, 30, 31, 32, 33, 34, 35] (by decide +kernel) (by decide +kernel)
set_option maxRecDepth 20000 in
theorem gX5_report_X5_holds : GoodIn wsX5_report (wsV RX5 64 RX5 yX5_holds wsX5_holds) := goodIn_app (goodIn_of _ (by decide +kernel)) ggX5_report_X5_holds
theorem dX5_report_0 : decode cX5_report 0 = .ok (.aload_n 0, 1) := by decide +kernel
theorem dX5_report_1 : decode cX5_report 1 = .ok (.aload_n 0, 1) := by decide +kernel
theorem dX5_report_2 : decode cX5_report 2 = .ok (.iload_n 1, 1) := by decide +kernel
theorem dX5_report_3 : decode cX5_report 3 = .ok (.invokevirtual 81, 3) := by decide +kernel
theorem dX5_report_6 : decode cX5_report 6 = .ok (.ifCond .eq 15, 3) := by decide +kernel
theorem dX5_report_9 : decode cX5_report 9 = .ok (.aload_n 0, 1) := by decide +kernel
theorem dX5_report_10 : decode cX5_report 10 = .ok (.iload_n 2, 1) := by decide +kernel
theorem dX5_report_11 : decode cX5_report 11 = .ok (.invokevirtual 68, 3) := by decide +kernel
theorem dX5_report_14 : decode cX5_report 14 = .ok (.ifCond .eq 7, 3) := by decide +kernel
theorem dX5_report_17 : decode cX5_report 17 = .ok (.iconst 0, 1) := by decide +kernel
theorem dX5_report_18 : decode cX5_report 18 = .ok (.goto 4, 3) := by decide +kernel
theorem dX5_report_21 : decode cX5_report 21 = .ok (.iconst 1, 1) := by decide +kernel
theorem dX5_report_22 : decode cX5_report 22 = .ok (.invokevirtual 64, 3) := by decide +kernel
theorem dX5_report_25 : decode cX5_report 25 = .ok (.ifCond .ne 5, 3) := by decide +kernel
theorem dX5_report_28 : decode cX5_report 28 = .ok (.iconst 0, 1) := by decide +kernel
theorem dX5_report_29 : decode cX5_report 29 = .ok (.ireturn, 1) := by decide +kernel
theorem dX5_report_30 : decode cX5_report 30 = .ok (.aload_n 0, 1) := by decide +kernel
theorem dX5_report_31 : decode cX5_report 31 = .ok (.getfield 29, 3) := by decide +kernel
theorem dX5_report_34 : decode cX5_report 34 = .ok (.bipush 20, 2) := by decide +kernel
theorem dX5_report_36 : decode cX5_report 36 = .ok (.iload_n 1, 1) := by decide +kernel
theorem dX5_report_37 : decode cX5_report 37 = .ok (.imul, 1) := by decide +kernel
theorem dX5_report_38 : decode cX5_report 38 = .ok (.iload_n 2, 1) := by decide +kernel
theorem dX5_report_39 : decode cX5_report 39 = .ok (.iadd, 1) := by decide +kernel
theorem dX5_report_40 : decode cX5_report 40 = .ok (.dup2, 1) := by decide +kernel
theorem dX5_report_41 : decode cX5_report 41 = .ok (.iaload, 1) := by decide +kernel
theorem dX5_report_42 : decode cX5_report 42 = .ok (.iconst 1, 1) := by decide +kernel
theorem dX5_report_43 : decode cX5_report 43 = .ok (.iadd, 1) := by decide +kernel
theorem dX5_report_44 : decode cX5_report 44 = .ok (.iastore, 1) := by decide +kernel
theorem dX5_report_45 : decode cX5_report 45 = .ok (.aload_n 0, 1) := by decide +kernel
theorem dX5_report_46 : decode cX5_report 46 = .ok (.getfield 29, 3) := by decide +kernel
theorem dX5_report_49 : decode cX5_report 49 = .ok (.bipush 20, 2) := by decide +kernel
theorem dX5_report_51 : decode cX5_report 51 = .ok (.iload_n 1, 1) := by decide +kernel
theorem dX5_report_52 : decode cX5_report 52 = .ok (.imul, 1) := by decide +kernel
theorem dX5_report_53 : decode cX5_report 53 = .ok (.iload_n 2, 1) := by decide +kernel
theorem dX5_report_54 : decode cX5_report 54 = .ok (.iadd, 1) := by decide +kernel
theorem dX5_report_55 : decode cX5_report 55 = .ok (.iaload, 1) := by decide +kernel
theorem dX5_report_56 : decode cX5_report 56 = .ok (.ireturn, 1) := by decide +kernel
set_option maxRecDepth 20000 in
theorem ggX5_mend_X5_isPackage : GoodIn wsX5_mend wsX5_isPackage := goodIn_r _ [6, 7, 18, 19, 20, 21, 22, 23, 24, 25, 26, 27, 28, 29, 30, 31, 32, 33, 34, 35] (by decide +kernel) (by decide +kernel)
set_option maxRecDepth 20000 in
theorem gX5_mend_X5_isPackage : GoodIn wsX5_mend (wsV RX5 81 RX5 yX5_isPackage wsX5_isPackage) := goodIn_app (goodIn_of _ (by decide +kernel)) ggX5_mend_X5_isPackage
set_option maxRecDepth 20000 in
theorem ggX5_mend_X5_isTitle : GoodIn wsX5_mend wsX5_isTitle := goodIn_r _ [11, 12, 18, 19, 20, 21, 22, 23, 24, 25, 26, 27, 28, 29, 30, 31, 32, 33, 34, 35] (by decide +kernel) (by decide +kernel)
set_option maxRecDepth 20000 in
theorem gX5_mend_X5_isTitle : GoodIn wsX5_mend (wsV RX5 68 RX5 yX5_isTitle wsX5_isTitle) := goodIn_app (goodIn_of _ (by decide +kernel)) ggX5_mend_X5_isTitle
set_option maxRecDepth 20000 in
theorem ggX5_mend_X5_holds : GoodIn wsX5_mend wsX5_holds := goodIn_r _ [16, 17, 18, 19, 20, 21, 22, 23, 24, 25, 26, 27, 28, 29, 30, 31, 32, 33, 34, 35] (by decide +kernel) (by decide +kernel)
set_option maxRecDepth 20000 in
theorem gX5_mend_X5_holds : GoodIn wsX5_mend (wsV RX5 64 RX5 yX5_holds wsX5_holds) := goodIn_app (goodIn_of _ (by decide +kernel)) ggX5_mend_X5_holds
theorem dX5_mend_0 : decode cX5_mend 0 = .ok (.aload_n 0, 1) := by decide +kernel
theorem dX5_mend_1 : decode cX5_mend 1 = .ok (.aload_n 0, 1) := by decide +kernel
theorem dX5_mend_2 : decode cX5_mend 2 = .ok (.iload_n 1, 1) := by decide +kernel
theorem dX5_mend_3 : decode cX5_mend 3 = .ok (.invokevirtual 81, 3) := by decide +kernel
theorem dX5_mend_6 : decode cX5_mend 6 = .ok (.ifCond .eq 15, 3) := by decide +kernel
theorem dX5_mend_9 : decode cX5_mend 9 = .ok (.aload_n 0, 1) := by decide +kernel
theorem dX5_mend_10 : decode cX5_mend 10 = .ok (.iload_n 2, 1) := by decide +kernel
theorem dX5_mend_11 : decode cX5_mend 11 = .ok (.invokevirtual 68, 3) := by decide +kernel
theorem dX5_mend_14 : decode cX5_mend 14 = .ok (.ifCond .eq 7, 3) := by decide +kernel
theorem dX5_mend_17 : decode cX5_mend 17 = .ok (.iconst 0, 1) := by decide +kernel
theorem dX5_mend_18 : decode cX5_mend 18 = .ok (.goto 4, 3) := by decide +kernel
theorem dX5_mend_21 : decode cX5_mend 21 = .ok (.iconst 1, 1) := by decide +kernel
theorem dX5_mend_22 : decode cX5_mend 22 = .ok (.invokevirtual 64, 3) := by decide +kernel
theorem dX5_mend_25 : decode cX5_mend 25 = .ok (.ifCond .ne 5, 3) := by decide +kernel
theorem dX5_mend_28 : decode cX5_mend 28 = .ok (.iconst 0, 1) := by decide +kernel
theorem dX5_mend_29 : decode cX5_mend 29 = .ok (.ireturn, 1) := by decide +kernel
theorem dX5_mend_30 : decode cX5_mend 30 = .ok (.aload_n 0, 1) := by decide +kernel
theorem dX5_mend_31 : decode cX5_mend 31 = .ok (.getfield 29, 3) := by decide +kernel
theorem dX5_mend_34 : decode cX5_mend 34 = .ok (.bipush 20, 2) := by decide +kernel
theorem dX5_mend_36 : decode cX5_mend 36 = .ok (.iload_n 1, 1) := by decide +kernel
theorem dX5_mend_37 : decode cX5_mend 37 = .ok (.imul, 1) := by decide +kernel
theorem dX5_mend_38 : decode cX5_mend 38 = .ok (.iload_n 2, 1) := by decide +kernel
theorem dX5_mend_39 : decode cX5_mend 39 = .ok (.iadd, 1) := by decide +kernel
theorem dX5_mend_40 : decode cX5_mend 40 = .ok (.iaload, 1) := by decide +kernel
theorem dX5_mend_41 : decode cX5_mend 41 = .ok (.istore_n 3, 1) := by decide +kernel
theorem dX5_mend_42 : decode cX5_mend 42 = .ok (.aload_n 0, 1) := by decide +kernel
theorem dX5_mend_43 : decode cX5_mend 43 = .ok (.getfield 29, 3) := by decide +kernel
theorem dX5_mend_46 : decode cX5_mend 46 = .ok (.bipush 20, 2) := by decide +kernel
theorem dX5_mend_48 : decode cX5_mend 48 = .ok (.iload_n 1, 1) := by decide +kernel
theorem dX5_mend_49 : decode cX5_mend 49 = .ok (.imul, 1) := by decide +kernel
theorem dX5_mend_50 : decode cX5_mend 50 = .ok (.iload_n 2, 1) := by decide +kernel
theorem dX5_mend_51 : decode cX5_mend 51 = .ok (.iadd, 1) := by decide +kernel
theorem dX5_mend_52 : decode cX5_mend 52 = .ok (.iconst 0, 1) := by decide +kernel
theorem dX5_mend_53 : decode cX5_mend 53 = .ok (.iastore, 1) := by decide +kernel
theorem dX5_mend_54 : decode cX5_mend 54 = .ok (.iload_n 3, 1) := by decide +kernel
theorem dX5_mend_55 : decode cX5_mend 55 = .ok (.ireturn, 1) := by decide +kernel
set_option maxRecDepth 20000 in
theorem ggX5_has_X5_changeOn : GoodIn wsX5_has wsX5_changeOn := goodIn_r _ [9, 10, 11, 12, 23, 24, 25, 26, 27, 28, 29, 30, 31, 32, 33, 34, 35, 36, 37, 38, 39, 40] (by decide +kernel) (by decide +kernel)
set_option maxRecDepth 20000 in
theorem gX5_has_X5_changeOn : GoodIn wsX5_has (wsV RX5 74 RX5 yX5_changeOn wsX5_changeOn) := goodIn_app (goodIn_of _ (by decide +kernel)) ggX5_has_X5_changeOn
set_option maxRecDepth 20000 in
theorem ggX5_has_X5_isBetween : GoodIn wsX5_has wsX5_isBetween := goodIn_r _ [15] (by decide +kernel) (by decide +kernel)
set_option maxRecDepth 20000 in
theorem gX5_has_X5_isBetween : GoodIn wsX5_has (va_wsS RX5 60 yX5_isBetween wsX5_isBetween) := goodIn_app (goodIn_of _ (by decide +kernel)) ggX5_has_X5_isBetween
set_option maxRecDepth 20000 in
theorem ggX5_has_X5_subscription : GoodIn wsX5_has wsX5_subscription := goodIn_r _ [18] (by decide +kernel) (by decide +kernel)
set_option maxRecDepth 20000 in
theorem gX5_has_X5_subscription : GoodIn wsX5_has (va_wsS RX5 84 yX5_subscription wsX5_subscription) := goodIn_app (goodIn_of _ (by decide +kernel)) ggX5_has_X5_subscription
set_option maxRecDepth 20000 in
theorem ggX5_has_X5_isSo : GoodIn wsX5_has wsX5_isSo := goodIn_r _ [22, 1, 5, 6, 7, 8, 9, 10, 11, 12, 23, 24, 25, 26, 27, 28, 29, 30, 31, 32, 33, 34, 35, 36, 37, 38, 39, 40] (by decide +kernel) (by decide +kernel)
set_option maxRecDepth 20000 in
theorem gX5_has_X5_isSo : GoodIn wsX5_has (wsV RX5 92 RX5 yX5_isSo wsX5_isSo) := goodIn_app (goodIn_of _ (by decide +kernel)) ggX5_has_X5_isSo
theorem dX5_has_0 : decode cX5_has 0 = .ok (.aload_n 0, 1) := by decide +kernel
theorem dX5_has_1 : decode cX5_has 1 = .ok (.bipush 21, 2) := by decide +kernel
theorem dX5_has_3 : decode cX5_has 3 = .ok (.iload_n 1, 1) := by decide +kernel
theorem dX5_has_4 : decode cX5_has 4 = .ok (.imul, 1) := by decide +kernel
theorem dX5_has_5 : decode cX5_has 5 = .ok (.iload_n 2, 1) := by decide +kernel
theorem dX5_has_6 : decode cX5_has 6 = .ok (.iadd, 1) := by decide +kernel
theorem dX5_has_7 : decode cX5_has 7 = .ok (.iload 4, 2) := by decide +kernel
theorem dX5_has_9 : decode cX5_has 9 = .ok (.invokevirtual 74, 3) := by decide +kernel
theorem dX5_has_12 : decode cX5_has 12 = .ok (.istore 6, 2) := by decide +kernel
theorem dX5_has_14 : decode cX5_has 14 = .ok (.iload 6, 2) := by decide +kernel
theorem dX5_has_16 : decode cX5_has 16 = .ok (.iconst (-1), 1) := by decide +kernel
theorem dX5_has_17 : decode cX5_has 17 = .ok (.if_icmp .eq 56, 3) := by decide +kernel
theorem dX5_has_20 : decode cX5_has 20 = .ok (.aload_n 0, 1) := by decide +kernel
theorem dX5_has_21 : decode cX5_has 21 = .ok (.getfield 38, 3) := by decide +kernel
theorem dX5_has_24 : decode cX5_has 24 = .ok (.iload 6, 2) := by decide +kernel
theorem dX5_has_26 : decode cX5_has 26 = .ok (.baload, 1) := by decide +kernel
theorem dX5_has_27 : decode cX5_has 27 = .ok (.ifCond .eq 46, 3) := by decide +kernel
theorem dX5_has_30 : decode cX5_has 30 = .ok (.iload_n 3, 1) := by decide +kernel
theorem dX5_has_31 : decode cX5_has 31 = .ok (.aload_n 0, 1) := by decide +kernel
theorem dX5_has_32 : decode cX5_has 32 = .ok (.getfield 41, 3) := by decide +kernel
theorem dX5_has_35 : decode cX5_has 35 = .ok (.iload 6, 2) := by decide +kernel
theorem dX5_has_37 : decode cX5_has 37 = .ok (.iaload, 1) := by decide +kernel
theorem dX5_has_38 : decode cX5_has 38 = .ok (.aload_n 0, 1) := by decide +kernel
theorem dX5_has_39 : decode cX5_has 39 = .ok (.getfield 44, 3) := by decide +kernel
theorem dX5_has_42 : decode cX5_has 42 = .ok (.iload 6, 2) := by decide +kernel
theorem dX5_has_44 : decode cX5_has 44 = .ok (.iaload, 1) := by decide +kernel
theorem dX5_has_45 : decode cX5_has 45 = .ok (.invokestatic 60, 3) := by decide +kernel
theorem dX5_has_48 : decode cX5_has 48 = .ok (.ifCond .eq 25, 3) := by decide +kernel
theorem dX5_has_51 : decode cX5_has 51 = .ok (.iload_n 3, 1) := by decide +kernel
theorem dX5_has_52 : decode cX5_has 52 = .ok (.iload 5, 2) := by decide +kernel
theorem dX5_has_54 : decode cX5_has 54 = .ok (.sipush 360, 3) := by decide +kernel
theorem dX5_has_57 : decode cX5_has 57 = .ok (.idiv, 1) := by decide +kernel
theorem dX5_has_58 : decode cX5_has 58 = .ok (.aload_n 0, 1) := by decide +kernel
theorem dX5_has_59 : decode cX5_has 59 = .ok (.getfield 47, 3) := by decide +kernel
theorem dX5_has_62 : decode cX5_has 62 = .ok (.iload 6, 2) := by decide +kernel
theorem dX5_has_64 : decode cX5_has 64 = .ok (.iaload, 1) := by decide +kernel
theorem dX5_has_65 : decode cX5_has 65 = .ok (.isub, 1) := by decide +kernel
theorem dX5_has_66 : decode cX5_has 66 = .ok (.if_icmp .gt 7, 3) := by decide +kernel
theorem dX5_has_69 : decode cX5_has 69 = .ok (.iconst 1, 1) := by decide +kernel
theorem dX5_has_70 : decode cX5_has 70 = .ok (.goto 4, 3) := by decide +kernel
theorem dX5_has_73 : decode cX5_has 73 = .ok (.iconst 0, 1) := by decide +kernel
theorem dX5_has_74 : decode cX5_has 74 = .ok (.istore 7, 2) := by decide +kernel
theorem dX5_has_76 : decode cX5_has 76 = .ok (.iload 7, 2) := by decide +kernel
theorem dX5_has_78 : decode cX5_has 78 = .ok (.ifCond .eq 20, 3) := by decide +kernel
theorem dX5_has_81 : decode cX5_has 81 = .ok (.aload_n 0, 1) := by decide +kernel
theorem dX5_has_82 : decode cX5_has 82 = .ok (.iload_n 1, 1) := by decide +kernel
theorem dX5_has_83 : decode cX5_has 83 = .ok (.invokestatic 84, 3) := by decide +kernel
theorem dX5_has_86 : decode cX5_has 86 = .ok (.iload 4, 2) := by decide +kernel
theorem dX5_has_88 : decode cX5_has 88 = .ok (.invokevirtual 92, 3) := by decide +kernel
theorem dX5_has_91 : decode cX5_has 91 = .ok (.ifCond .eq 7, 3) := by decide +kernel
theorem dX5_has_94 : decode cX5_has 94 = .ok (.iconst 1, 1) := by decide +kernel
theorem dX5_has_95 : decode cX5_has 95 = .ok (.goto 4, 3) := by decide +kernel
theorem dX5_has_98 : decode cX5_has 98 = .ok (.iconst 0, 1) := by decide +kernel
theorem dX5_has_99 : decode cX5_has 99 = .ok (.ireturn, 1) := by decide +kernel
set_option maxRecDepth 20000 in
theorem ggX5_isKept_X5_has : GoodIn wsX5_isKept wsX5_has := goodIn_r _ [6, 7, 8, 9, 10, 11, 12, 13, 5, 14, 15, 16, 17, 18, 19, 20, 21, 22, 23, 24, 25, 26, 27, 28, 29, 30, 31, 32, 33, 34, 35, 36, 37, 38, 39, 40, 41, 42, 43, 44, 45] (by decide +kernel) (by decide +kernel)
set_option maxRecDepth 20000 in
theorem gX5_isKept_X5_has : GoodIn wsX5_isKept (wsV RX5 96 RX5 yX5_has wsX5_has) := goodIn_app (goodIn_of _ (by decide +kernel)) ggX5_isKept_X5_has
theorem dX5_isKept_0 : decode cX5_isKept 0 = .ok (.sipush 360, 3) := by decide +kernel
theorem dX5_isKept_3 : decode cX5_isKept 3 = .ok (.iload_n 3, 1) := by decide +kernel
theorem dX5_isKept_4 : decode cX5_isKept 4 = .ok (.imul, 1) := by decide +kernel
theorem dX5_isKept_5 : decode cX5_isKept 5 = .ok (.sipush 360, 3) := by decide +kernel
theorem dX5_isKept_8 : decode cX5_isKept 8 = .ok (.iadd, 1) := by decide +kernel
theorem dX5_isKept_9 : decode cX5_isKept 9 = .ok (.iconst 1, 1) := by decide +kernel
theorem dX5_isKept_10 : decode cX5_isKept 10 = .ok (.isub, 1) := by decide +kernel
theorem dX5_isKept_11 : decode cX5_isKept 11 = .ok (.istore 5, 2) := by decide +kernel
theorem dX5_isKept_13 : decode cX5_isKept 13 = .ok (.aload_n 0, 1) := by decide +kernel
theorem dX5_isKept_14 : decode cX5_isKept 14 = .ok (.getfield 25, 3) := by decide +kernel
theorem dX5_isKept_17 : decode cX5_isKept 17 = .ok (.iload_n 1, 1) := by decide +kernel
theorem dX5_isKept_18 : decode cX5_isKept 18 = .ok (.baload, 1) := by decide +kernel
theorem dX5_isKept_19 : decode cX5_isKept 19 = .ok (.ifCond .eq 28, 3) := by decide +kernel
theorem dX5_isKept_22 : decode cX5_isKept 22 = .ok (.iload 5, 2) := by decide +kernel
theorem dX5_isKept_24 : decode cX5_isKept 24 = .ok (.iload 4, 2) := by decide +kernel
theorem dX5_isKept_26 : decode cX5_isKept 26 = .ok (.if_icmp .ge 21, 3) := by decide +kernel
theorem dX5_isKept_29 : decode cX5_isKept 29 = .ok (.aload_n 0, 1) := by decide +kernel
theorem dX5_isKept_30 : decode cX5_isKept 30 = .ok (.iload_n 1, 1) := by decide +kernel
theorem dX5_isKept_31 : decode cX5_isKept 31 = .ok (.iload_n 2, 1) := by decide +kernel
theorem dX5_isKept_32 : decode cX5_isKept 32 = .ok (.iload_n 3, 1) := by decide +kernel
theorem dX5_isKept_33 : decode cX5_isKept 33 = .ok (.iload 5, 2) := by decide +kernel
theorem dX5_isKept_35 : decode cX5_isKept 35 = .ok (.iload 4, 2) := by decide +kernel
theorem dX5_isKept_37 : decode cX5_isKept 37 = .ok (.invokevirtual 96, 3) := by decide +kernel
theorem dX5_isKept_40 : decode cX5_isKept 40 = .ok (.ifCond .eq 7, 3) := by decide +kernel
theorem dX5_isKept_43 : decode cX5_isKept 43 = .ok (.iconst 1, 1) := by decide +kernel
theorem dX5_isKept_44 : decode cX5_isKept 44 = .ok (.goto 4, 3) := by decide +kernel
theorem dX5_isKept_47 : decode cX5_isKept 47 = .ok (.iconst 0, 1) := by decide +kernel
theorem dX5_isKept_48 : decode cX5_isKept 48 = .ok (.ireturn, 1) := by decide +kernel
set_option maxRecDepth 20000 in
theorem ggX5_isCovered_X5_has : GoodIn wsX5_isCovered wsX5_has := goodIn_r _ [5, 6, 7, 8, 9, 10, 11, 12, 4, 13, 14, 15, 16, 17, 18, 19, 20, 21, 22, 23, 24, 25, 26, 32, 33, 34, 35, 36, 37, 38, 39, 40, 41, 42, 43, 44, 45, 46, 47, 48, 49] (by decide +kernel) (by decide +kernel)
set_option maxRecDepth 20000 in
theorem gX5_isCovered_X5_has : GoodIn wsX5_isCovered (wsV RX5 96 RX5 yX5_has wsX5_has) := goodIn_app (goodIn_of _ (by decide +kernel)) ggX5_isCovered_X5_has
set_option maxRecDepth 20000 in
theorem ggX5_isCovered_X5_isKept : GoodIn wsX5_isCovered wsX5_isKept := goodIn_r _ [30, 31, 1, 2, 3, 4, 5, 6, 7, 8, 9, 10, 11, 12, 13, 14, 15, 16, 17, 18, 19, 20, 21, 22, 23, 24, 25, 26, 32, 33, 34, 35, 36, 37, 38, 39, 40, 41, 42, 43, 44, 45, 46, 47, 48, 49] (by decide +kernel) (by decide +kernel)
set_option maxRecDepth 20000 in
theorem gX5_isCovered_X5_isKept : GoodIn wsX5_isCovered (wsV RX5 100 RX5 yX5_isKept wsX5_isKept) := goodIn_app (goodIn_of _ (by decide +kernel)) ggX5_isCovered_X5_isKept
theorem dX5_isCovered_0 : decode cX5_isCovered 0 = .ok (.aload_n 0, 1) := by decide +kernel
theorem dX5_isCovered_1 : decode cX5_isCovered 1 = .ok (.iload_n 1, 1) := by decide +kernel
theorem dX5_isCovered_2 : decode cX5_isCovered 2 = .ok (.iload_n 2, 1) := by decide +kernel
theorem dX5_isCovered_3 : decode cX5_isCovered 3 = .ok (.iload_n 3, 1) := by decide +kernel
theorem dX5_isCovered_4 : decode cX5_isCovered 4 = .ok (.iload 4, 2) := by decide +kernel
theorem dX5_isCovered_6 : decode cX5_isCovered 6 = .ok (.iload 4, 2) := by decide +kernel
theorem dX5_isCovered_8 : decode cX5_isCovered 8 = .ok (.invokevirtual 96, 3) := by decide +kernel
theorem dX5_isCovered_11 : decode cX5_isCovered 11 = .ok (.ifCond .ne 15, 3) := by decide +kernel
theorem dX5_isCovered_14 : decode cX5_isCovered 14 = .ok (.aload_n 0, 1) := by decide +kernel
theorem dX5_isCovered_15 : decode cX5_isCovered 15 = .ok (.iload_n 1, 1) := by decide +kernel
theorem dX5_isCovered_16 : decode cX5_isCovered 16 = .ok (.iload_n 2, 1) := by decide +kernel
theorem dX5_isCovered_17 : decode cX5_isCovered 17 = .ok (.iload_n 3, 1) := by decide +kernel
theorem dX5_isCovered_18 : decode cX5_isCovered 18 = .ok (.iload 4, 2) := by decide +kernel
theorem dX5_isCovered_20 : decode cX5_isCovered 20 = .ok (.invokevirtual 100, 3) := by decide +kernel
theorem dX5_isCovered_23 : decode cX5_isCovered 23 = .ok (.ifCond .eq 7, 3) := by decide +kernel
theorem dX5_isCovered_26 : decode cX5_isCovered 26 = .ok (.iconst 1, 1) := by decide +kernel
theorem dX5_isCovered_27 : decode cX5_isCovered 27 = .ok (.goto 4, 3) := by decide +kernel
theorem dX5_isCovered_30 : decode cX5_isCovered 30 = .ok (.iconst 0, 1) := by decide +kernel
theorem dX5_isCovered_31 : decode cX5_isCovered 31 = .ok (.ireturn, 1) := by decide +kernel
theorem dX5_lets_0 : decode cX5_lets 0 = .ok (.aload_n 0, 1) := by decide +kernel
theorem dX5_lets_1 : decode cX5_lets 1 = .ok (.getfield 22, 3) := by decide +kernel
theorem dX5_lets_4 : decode cX5_lets 4 = .ok (.iload_n 1, 1) := by decide +kernel
theorem dX5_lets_5 : decode cX5_lets 5 = .ok (.iaload, 1) := by decide +kernel
theorem dX5_lets_6 : decode cX5_lets 6 = .ok (.iload_n 2, 1) := by decide +kernel
theorem dX5_lets_7 : decode cX5_lets 7 = .ok (.ishr, 1) := by decide +kernel
theorem dX5_lets_8 : decode cX5_lets 8 = .ok (.iconst 1, 1) := by decide +kernel
theorem dX5_lets_9 : decode cX5_lets 9 = .ok (.iand, 1) := by decide +kernel
theorem dX5_lets_10 : decode cX5_lets 10 = .ok (.iconst 1, 1) := by decide +kernel
theorem dX5_lets_11 : decode cX5_lets 11 = .ok (.if_icmp .ne 7, 3) := by decide +kernel
theorem dX5_lets_14 : decode cX5_lets 14 = .ok (.iconst 1, 1) := by decide +kernel
theorem dX5_lets_15 : decode cX5_lets 15 = .ok (.goto 4, 3) := by decide +kernel
theorem dX5_lets_18 : decode cX5_lets 18 = .ok (.iconst 0, 1) := by decide +kernel
theorem dX5_lets_19 : decode cX5_lets 19 = .ok (.ireturn, 1) := by decide +kernel
set_option maxRecDepth 20000 in
theorem ggX5_isAsked_X5_isBetween : GoodIn wsX5_isAsked wsX5_isBetween := goodIn_r _ [5] (by decide +kernel) (by decide +kernel)
set_option maxRecDepth 20000 in
theorem gX5_isAsked_X5_isBetween : GoodIn wsX5_isAsked (va_wsS RX5 60 yX5_isBetween wsX5_isBetween) := goodIn_app (goodIn_of _ (by decide +kernel)) ggX5_isAsked_X5_isBetween
theorem dX5_isAsked_0 : decode cX5_isAsked 0 = .ok (.iload_n 1, 1) := by decide +kernel
theorem dX5_isAsked_1 : decode cX5_isAsked 1 = .ok (.iconst 0, 1) := by decide +kernel
theorem dX5_isAsked_2 : decode cX5_isAsked 2 = .ok (.bipush 55, 2) := by decide +kernel
theorem dX5_isAsked_4 : decode cX5_isAsked 4 = .ok (.invokestatic 60, 3) := by decide +kernel
theorem dX5_isAsked_7 : decode cX5_isAsked 7 = .ok (.ifCond .eq 28, 3) := by decide +kernel
theorem dX5_isAsked_10 : decode cX5_isAsked 10 = .ok (.iload_n 2, 1) := by decide +kernel
theorem dX5_isAsked_11 : decode cX5_isAsked 11 = .ok (.iconst 0, 1) := by decide +kernel
theorem dX5_isAsked_12 : decode cX5_isAsked 12 = .ok (.iconst 3, 1) := by decide +kernel
theorem dX5_isAsked_13 : decode cX5_isAsked 13 = .ok (.invokestatic 60, 3) := by decide +kernel
theorem dX5_isAsked_16 : decode cX5_isAsked 16 = .ok (.ifCond .eq 19, 3) := by decide +kernel
theorem dX5_isAsked_19 : decode cX5_isAsked 19 = .ok (.iload_n 3, 1) := by decide +kernel
theorem dX5_isAsked_20 : decode cX5_isAsked 20 = .ok (.iconst 0, 1) := by decide +kernel
theorem dX5_isAsked_21 : decode cX5_isAsked 21 = .ok (.aload_n 0, 1) := by decide +kernel
theorem dX5_isAsked_22 : decode cX5_isAsked 22 = .ok (.getfield 78, 3) := by decide +kernel
theorem dX5_isAsked_25 : decode cX5_isAsked 25 = .ok (.invokestatic 60, 3) := by decide +kernel
theorem dX5_isAsked_28 : decode cX5_isAsked 28 = .ok (.ifCond .eq 7, 3) := by decide +kernel
theorem dX5_isAsked_31 : decode cX5_isAsked 31 = .ok (.iconst 1, 1) := by decide +kernel
theorem dX5_isAsked_32 : decode cX5_isAsked 32 = .ok (.goto 4, 3) := by decide +kernel
theorem dX5_isAsked_35 : decode cX5_isAsked 35 = .ok (.iconst 0, 1) := by decide +kernel
theorem dX5_isAsked_36 : decode cX5_isAsked 36 = .ok (.ireturn, 1) := by decide +kernel
set_option maxRecDepth 20000 in
theorem ggX5_covers_X5_isPackage : GoodIn wsX5_covers wsX5_isPackage := goodIn_r _ [5, 6, 61, 62, 63, 64, 65, 66, 67, 68, 69, 70, 71, 72, 73, 74, 75, 76, 77, 78] (by decide +kernel) (by decide +kernel)
set_option maxRecDepth 20000 in
theorem gX5_covers_X5_isPackage : GoodIn wsX5_covers (wsV RX5 81 RX5 yX5_isPackage wsX5_isPackage) := goodIn_app (goodIn_of _ (by decide +kernel)) ggX5_covers_X5_isPackage
set_option maxRecDepth 20000 in
theorem ggX5_covers_X5_isTitle : GoodIn wsX5_covers wsX5_isTitle := goodIn_r _ [10, 11, 61, 62, 63, 64, 65, 66, 67, 68, 69, 70, 71, 72, 73, 74, 75, 76, 77, 78] (by decide +kernel) (by decide +kernel)
set_option maxRecDepth 20000 in
theorem gX5_covers_X5_isTitle : GoodIn wsX5_covers (wsV RX5 68 RX5 yX5_isTitle wsX5_isTitle) := goodIn_app (goodIn_of _ (by decide +kernel)) ggX5_covers_X5_isTitle
set_option maxRecDepth 20000 in
theorem ggX5_covers_X5_isAsked : GoodIn wsX5_covers wsX5_isAsked := goodIn_r _ [15, 16, 17, 18, 4, 19, 61, 62, 63, 64, 65, 66, 67, 68, 69, 70, 71, 72, 73, 74, 75, 76, 77, 78] (by decide +kernel) (by decide +kernel)
set_option maxRecDepth 20000 in
theorem gX5_covers_X5_isAsked : GoodIn wsX5_covers (wsV RX5 104 RX5 yX5_isAsked wsX5_isAsked) := goodIn_app (goodIn_of _ (by decide +kernel)) ggX5_covers_X5_isAsked
set_option maxRecDepth 20000 in
theorem ggX5_covers_X5_holds : GoodIn wsX5_covers wsX5_holds := goodIn_r _ [23, 24, 61, 62, 63, 64, 65, 66, 67, 68, 69, 70, 71, 72, 73, 74, 75, 76, 77, 78] (by decide +kernel) (by decide +kernel)
set_option maxRecDepth 20000 in
theorem gX5_covers_X5_holds : GoodIn wsX5_covers (wsV RX5 64 RX5 yX5_holds wsX5_holds) := goodIn_app (goodIn_of _ (by decide +kernel)) ggX5_covers_X5_holds
set_option maxRecDepth 20000 in
theorem ggX5_covers_X5_lets : GoodIn wsX5_covers wsX5_lets := goodIn_r _ [28, 29, 61, 62, 63, 64, 65, 66, 67, 68, 69, 70, 71, 72, 73, 74, 75, 76, 77, 78] (by decide +kernel) (by decide +kernel)
set_option maxRecDepth 20000 in
theorem gX5_covers_X5_lets : GoodIn wsX5_covers (wsV RX5 107 RX5 yX5_lets wsX5_lets) := goodIn_app (goodIn_of _ (by decide +kernel)) ggX5_covers_X5_lets
set_option maxRecDepth 20000 in
theorem ggX5_covers_X5_isCovered : GoodIn wsX5_covers wsX5_isCovered := goodIn_r _ [33, 34, 35, 36, 4, 37, 38, 39, 40, 41, 42, 43, 44, 45, 46, 47, 48, 17, 18, 19, 49, 50, 51, 52, 53, 54, 55, 56, 57, 58, 59, 60, 61, 62, 63, 64, 65, 66, 67, 68, 69, 70, 71, 72, 73, 74, 75, 76, 77, 78] (by decide +kernel) (by decide +kernel)
set_option maxRecDepth 20000 in
theorem gX5_covers_X5_isCovered : GoodIn wsX5_covers (wsV RX5 110 RX5 yX5_isCovered wsX5_isCovered) := goodIn_app (goodIn_of _ (by decide +kernel)) ggX5_covers_X5_isCovered
theorem dX5_covers_0 : decode cX5_covers 0 = .ok (.aload_n 0, 1) := by decide +kernel
theorem dX5_covers_1 : decode cX5_covers 1 = .ok (.iload_n 1, 1) := by decide +kernel
theorem dX5_covers_2 : decode cX5_covers 2 = .ok (.invokevirtual 81, 3) := by decide +kernel
theorem dX5_covers_5 : decode cX5_covers 5 = .ok (.ifCond .eq 15, 3) := by decide +kernel
theorem dX5_covers_8 : decode cX5_covers 8 = .ok (.aload_n 0, 1) := by decide +kernel
theorem dX5_covers_9 : decode cX5_covers 9 = .ok (.iload_n 2, 1) := by decide +kernel
theorem dX5_covers_10 : decode cX5_covers 10 = .ok (.invokevirtual 68, 3) := by decide +kernel
theorem dX5_covers_13 : decode cX5_covers 13 = .ok (.ifCond .eq 7, 3) := by decide +kernel
theorem dX5_covers_16 : decode cX5_covers 16 = .ok (.iconst 1, 1) := by decide +kernel
theorem dX5_covers_17 : decode cX5_covers 17 = .ok (.goto 4, 3) := by decide +kernel
theorem dX5_covers_20 : decode cX5_covers 20 = .ok (.iconst 0, 1) := by decide +kernel
theorem dX5_covers_21 : decode cX5_covers 21 = .ok (.istore 6, 2) := by decide +kernel
theorem dX5_covers_23 : decode cX5_covers 23 = .ok (.aload_n 0, 1) := by decide +kernel
theorem dX5_covers_24 : decode cX5_covers 24 = .ok (.iload 6, 2) := by decide +kernel
theorem dX5_covers_26 : decode cX5_covers 26 = .ok (.ifCond .ne 7, 3) := by decide +kernel
theorem dX5_covers_29 : decode cX5_covers 29 = .ok (.iconst 1, 1) := by decide +kernel
theorem dX5_covers_30 : decode cX5_covers 30 = .ok (.goto 20, 3) := by decide +kernel
theorem dX5_covers_33 : decode cX5_covers 33 = .ok (.aload_n 0, 1) := by decide +kernel
theorem dX5_covers_34 : decode cX5_covers 34 = .ok (.iload_n 3, 1) := by decide +kernel
theorem dX5_covers_35 : decode cX5_covers 35 = .ok (.iload 4, 2) := by decide +kernel
theorem dX5_covers_37 : decode cX5_covers 37 = .ok (.iload 5, 2) := by decide +kernel
theorem dX5_covers_39 : decode cX5_covers 39 = .ok (.invokevirtual 104, 3) := by decide +kernel
theorem dX5_covers_42 : decode cX5_covers 42 = .ok (.ifCond .eq 7, 3) := by decide +kernel
theorem dX5_covers_45 : decode cX5_covers 45 = .ok (.iconst 0, 1) := by decide +kernel
theorem dX5_covers_46 : decode cX5_covers 46 = .ok (.goto 4, 3) := by decide +kernel
theorem dX5_covers_49 : decode cX5_covers 49 = .ok (.iconst 2, 1) := by decide +kernel
theorem dX5_covers_50 : decode cX5_covers 50 = .ok (.invokevirtual 64, 3) := by decide +kernel
theorem dX5_covers_53 : decode cX5_covers 53 = .ok (.ifCond .eq 29, 3) := by decide +kernel
theorem dX5_covers_56 : decode cX5_covers 56 = .ok (.aload_n 0, 1) := by decide +kernel
theorem dX5_covers_57 : decode cX5_covers 57 = .ok (.iload_n 1, 1) := by decide +kernel
theorem dX5_covers_58 : decode cX5_covers 58 = .ok (.iload 4, 2) := by decide +kernel
theorem dX5_covers_60 : decode cX5_covers 60 = .ok (.invokevirtual 107, 3) := by decide +kernel
theorem dX5_covers_63 : decode cX5_covers 63 = .ok (.ifCond .eq 19, 3) := by decide +kernel
theorem dX5_covers_66 : decode cX5_covers 66 = .ok (.aload_n 0, 1) := by decide +kernel
theorem dX5_covers_67 : decode cX5_covers 67 = .ok (.iload_n 1, 1) := by decide +kernel
theorem dX5_covers_68 : decode cX5_covers 68 = .ok (.iload_n 2, 1) := by decide +kernel
theorem dX5_covers_69 : decode cX5_covers 69 = .ok (.iload_n 3, 1) := by decide +kernel
theorem dX5_covers_70 : decode cX5_covers 70 = .ok (.iload 5, 2) := by decide +kernel
theorem dX5_covers_72 : decode cX5_covers 72 = .ok (.invokevirtual 110, 3) := by decide +kernel
theorem dX5_covers_75 : decode cX5_covers 75 = .ok (.ifCond .eq 7, 3) := by decide +kernel
theorem dX5_covers_78 : decode cX5_covers 78 = .ok (.iconst 1, 1) := by decide +kernel
theorem dX5_covers_79 : decode cX5_covers 79 = .ok (.goto 4, 3) := by decide +kernel
theorem dX5_covers_82 : decode cX5_covers 82 = .ok (.iconst 0, 1) := by decide +kernel
theorem dX5_covers_83 : decode cX5_covers 83 = .ok (.ireturn, 1) := by decide +kernel
set_option maxRecDepth 20000 in
theorem ggX5_waysTo_X5_lets : GoodIn wsX5_waysTo wsX5_lets := goodIn_r _ [6, 7, 42, 43, 44, 45, 46, 47, 48, 49, 50, 51, 52, 53, 54, 55, 56, 57, 58, 59] (by decide +kernel) (by decide +kernel)
set_option maxRecDepth 20000 in
theorem gX5_waysTo_X5_lets : GoodIn wsX5_waysTo (wsV RX5 107 RX5 yX5_lets wsX5_lets) := goodIn_app (goodIn_of _ (by decide +kernel)) ggX5_waysTo_X5_lets
set_option maxRecDepth 20000 in
theorem ggX5_waysTo_X5_isCovered : GoodIn wsX5_waysTo wsX5_isCovered := goodIn_r _ [11, 12, 13, 14, 5, 15, 16, 17, 18, 19, 20, 21, 22, 23, 24, 25, 26, 27, 28, 29, 30, 31, 32, 33, 34, 35, 36, 37, 38, 39, 40, 41, 42, 43, 44, 45, 46, 47, 48, 49, 50, 51, 52, 53, 54, 55, 56, 57, 58, 59] (by decide +kernel) (by decide +kernel)
set_option maxRecDepth 20000 in
theorem gX5_waysTo_X5_isCovered : GoodIn wsX5_waysTo (wsV RX5 110 RX5 yX5_isCovered wsX5_isCovered) := goodIn_app (goodIn_of _ (by decide +kernel)) ggX5_waysTo_X5_isCovered
theorem dX5_waysTo_0 : decode cX5_waysTo 0 = .ok (.iconst 0, 1) := by decide +kernel
theorem dX5_waysTo_1 : decode cX5_waysTo 1 = .ok (.istore 5, 2) := by decide +kernel
theorem dX5_waysTo_3 : decode cX5_waysTo 3 = .ok (.iconst 0, 1) := by decide +kernel
theorem dX5_waysTo_4 : decode cX5_waysTo 4 = .ok (.istore 6, 2) := by decide +kernel
theorem dX5_waysTo_6 : decode cX5_waysTo 6 = .ok (.iload 6, 2) := by decide +kernel
theorem dX5_waysTo_8 : decode cX5_waysTo 8 = .ok (.aload_n 0, 1) := by decide +kernel
theorem dX5_waysTo_9 : decode cX5_waysTo 9 = .ok (.getfield 57, 3) := by decide +kernel
theorem dX5_waysTo_12 : decode cX5_waysTo 12 = .ok (.if_icmp .ge 42, 3) := by decide +kernel
theorem dX5_waysTo_15 : decode cX5_waysTo 15 = .ok (.iload 5, 2) := by decide +kernel
theorem dX5_waysTo_17 : decode cX5_waysTo 17 = .ok (.aload_n 0, 1) := by decide +kernel
theorem dX5_waysTo_18 : decode cX5_waysTo 18 = .ok (.iload 6, 2) := by decide +kernel
theorem dX5_waysTo_20 : decode cX5_waysTo 20 = .ok (.iload_n 3, 1) := by decide +kernel
theorem dX5_waysTo_21 : decode cX5_waysTo 21 = .ok (.invokevirtual 107, 3) := by decide +kernel
theorem dX5_waysTo_24 : decode cX5_waysTo 24 = .ok (.ifCond .eq 20, 3) := by decide +kernel
theorem dX5_waysTo_27 : decode cX5_waysTo 27 = .ok (.aload_n 0, 1) := by decide +kernel
theorem dX5_waysTo_28 : decode cX5_waysTo 28 = .ok (.iload 6, 2) := by decide +kernel
theorem dX5_waysTo_30 : decode cX5_waysTo 30 = .ok (.iload_n 1, 1) := by decide +kernel
theorem dX5_waysTo_31 : decode cX5_waysTo 31 = .ok (.iload_n 2, 1) := by decide +kernel
theorem dX5_waysTo_32 : decode cX5_waysTo 32 = .ok (.iload 4, 2) := by decide +kernel
theorem dX5_waysTo_34 : decode cX5_waysTo 34 = .ok (.invokevirtual 110, 3) := by decide +kernel
theorem dX5_waysTo_37 : decode cX5_waysTo 37 = .ok (.ifCond .eq 7, 3) := by decide +kernel
theorem dX5_waysTo_40 : decode cX5_waysTo 40 = .ok (.iconst 1, 1) := by decide +kernel
theorem dX5_waysTo_41 : decode cX5_waysTo 41 = .ok (.goto 4, 3) := by decide +kernel
theorem dX5_waysTo_44 : decode cX5_waysTo 44 = .ok (.iconst 0, 1) := by decide +kernel
theorem dX5_waysTo_45 : decode cX5_waysTo 45 = .ok (.iadd, 1) := by decide +kernel
theorem dX5_waysTo_46 : decode cX5_waysTo 46 = .ok (.istore 5, 2) := by decide +kernel
theorem dX5_waysTo_48 : decode cX5_waysTo 48 = .ok (.iinc 6 1, 3) := by decide +kernel
theorem dX5_waysTo_51 : decode cX5_waysTo 51 = .ok (.goto (-45), 3) := by decide +kernel
theorem dX5_waysTo_54 : decode cX5_waysTo 54 = .ok (.iload 5, 2) := by decide +kernel
theorem dX5_waysTo_56 : decode cX5_waysTo 56 = .ok (.ireturn, 1) := by decide +kernel
set_option maxRecDepth 20000 in
theorem ggX5_ways_X5_isTitle : GoodIn wsX5_ways wsX5_isTitle := goodIn_r _ [5, 6, 61, 62, 63, 64, 65, 66, 67, 68, 69, 70, 71, 72, 73, 74, 75, 76, 77, 78] (by decide +kernel) (by decide +kernel)
set_option maxRecDepth 20000 in
theorem gX5_ways_X5_isTitle : GoodIn wsX5_ways (wsV RX5 68 RX5 yX5_isTitle wsX5_isTitle) := goodIn_app (goodIn_of _ (by decide +kernel)) ggX5_ways_X5_isTitle
set_option maxRecDepth 20000 in
theorem ggX5_ways_X5_isAsked : GoodIn wsX5_ways wsX5_isAsked := goodIn_r _ [10, 11, 12, 13, 4, 14, 61, 62, 63, 64, 65, 66, 67, 68, 69, 70, 71, 72, 73, 74, 75, 76, 77, 78] (by decide +kernel) (by decide +kernel)
set_option maxRecDepth 20000 in
theorem gX5_ways_X5_isAsked : GoodIn wsX5_ways (wsV RX5 104 RX5 yX5_isAsked wsX5_isAsked) := goodIn_app (goodIn_of _ (by decide +kernel)) ggX5_ways_X5_isAsked
set_option maxRecDepth 20000 in
theorem ggX5_ways_X5_holds : GoodIn wsX5_ways wsX5_holds := goodIn_r _ [18, 19, 61, 62, 63, 64, 65, 66, 67, 68, 69, 70, 71, 72, 73, 74, 75, 76, 77, 78] (by decide +kernel) (by decide +kernel)
set_option maxRecDepth 20000 in
theorem gX5_ways_X5_holds : GoodIn wsX5_ways (wsV RX5 64 RX5 yX5_holds wsX5_holds) := goodIn_app (goodIn_of _ (by decide +kernel)) ggX5_ways_X5_holds
set_option maxRecDepth 20000 in
theorem ggX5_ways_X5_waysTo : GoodIn wsX5_ways wsX5_waysTo := goodIn_r _ [23, 24, 25, 26, 27, 4, 28, 29, 30, 31, 32, 33, 34, 35, 36, 37, 38, 39, 40, 41, 42, 43, 44, 45, 46, 47, 48, 12, 13, 14, 49, 50, 51, 52, 53, 54, 55, 56, 57, 58, 59, 60, 61, 62, 63, 64, 65, 66, 67, 68, 69, 70, 71, 72, 73, 74, 75, 76, 77, 78] (by decide +kernel) (by decide +kernel)
set_option maxRecDepth 20000 in
theorem gX5_ways_X5_waysTo : GoodIn wsX5_ways (wsV RX5 113 RX5 yX5_waysTo wsX5_waysTo) := goodIn_app (goodIn_of _ (by decide +kernel)) ggX5_ways_X5_waysTo
theorem dX5_ways_0 : decode cX5_ways 0 = .ok (.aload_n 0, 1) := by decide +kernel
theorem dX5_ways_1 : decode cX5_ways 1 = .ok (.aload_n 0, 1) := by decide +kernel
theorem dX5_ways_2 : decode cX5_ways 2 = .ok (.iload_n 1, 1) := by decide +kernel
theorem dX5_ways_3 : decode cX5_ways 3 = .ok (.invokevirtual 68, 3) := by decide +kernel
theorem dX5_ways_6 : decode cX5_ways 6 = .ok (.ifCond .ne 7, 3) := by decide +kernel
theorem dX5_ways_9 : decode cX5_ways 9 = .ok (.iconst 1, 1) := by decide +kernel
theorem dX5_ways_10 : decode cX5_ways 10 = .ok (.goto 19, 3) := by decide +kernel
theorem dX5_ways_13 : decode cX5_ways 13 = .ok (.aload_n 0, 1) := by decide +kernel
theorem dX5_ways_14 : decode cX5_ways 14 = .ok (.iload_n 2, 1) := by decide +kernel
theorem dX5_ways_15 : decode cX5_ways 15 = .ok (.iload_n 3, 1) := by decide +kernel
theorem dX5_ways_16 : decode cX5_ways 16 = .ok (.iload 4, 2) := by decide +kernel
theorem dX5_ways_18 : decode cX5_ways 18 = .ok (.invokevirtual 104, 3) := by decide +kernel
theorem dX5_ways_21 : decode cX5_ways 21 = .ok (.ifCond .eq 7, 3) := by decide +kernel
theorem dX5_ways_24 : decode cX5_ways 24 = .ok (.iconst 0, 1) := by decide +kernel
theorem dX5_ways_25 : decode cX5_ways 25 = .ok (.goto 4, 3) := by decide +kernel
theorem dX5_ways_28 : decode cX5_ways 28 = .ok (.iconst 2, 1) := by decide +kernel
theorem dX5_ways_29 : decode cX5_ways 29 = .ok (.invokevirtual 64, 3) := by decide +kernel
theorem dX5_ways_32 : decode cX5_ways 32 = .ok (.ifCond .eq 15, 3) := by decide +kernel
theorem dX5_ways_35 : decode cX5_ways 35 = .ok (.aload_n 0, 1) := by decide +kernel
theorem dX5_ways_36 : decode cX5_ways 36 = .ok (.iload_n 1, 1) := by decide +kernel
theorem dX5_ways_37 : decode cX5_ways 37 = .ok (.iload_n 2, 1) := by decide +kernel
theorem dX5_ways_38 : decode cX5_ways 38 = .ok (.iload_n 3, 1) := by decide +kernel
theorem dX5_ways_39 : decode cX5_ways 39 = .ok (.iload 4, 2) := by decide +kernel
theorem dX5_ways_41 : decode cX5_ways 41 = .ok (.invokevirtual 113, 3) := by decide +kernel
theorem dX5_ways_44 : decode cX5_ways 44 = .ok (.goto 4, 3) := by decide +kernel
theorem dX5_ways_47 : decode cX5_ways 47 = .ok (.iconst 0, 1) := by decide +kernel
theorem dX5_ways_48 : decode cX5_ways 48 = .ok (.ireturn, 1) := by decide +kernel
theorem dX5_isAhead_0 : decode cX5_isAhead 0 = .ok (.aload_n 0, 1) := by decide +kernel
theorem dX5_isAhead_1 : decode cX5_isAhead 1 = .ok (.getfield 29, 3) := by decide +kernel
theorem dX5_isAhead_4 : decode cX5_isAhead 4 = .ok (.bipush 20, 2) := by decide +kernel
theorem dX5_isAhead_6 : decode cX5_isAhead 6 = .ok (.iload_n 1, 1) := by decide +kernel
theorem dX5_isAhead_7 : decode cX5_isAhead 7 = .ok (.imul, 1) := by decide +kernel
theorem dX5_isAhead_8 : decode cX5_isAhead 8 = .ok (.iload_n 3, 1) := by decide +kernel
theorem dX5_isAhead_9 : decode cX5_isAhead 9 = .ok (.iadd, 1) := by decide +kernel
theorem dX5_isAhead_10 : decode cX5_isAhead 10 = .ok (.iaload, 1) := by decide +kernel
theorem dX5_isAhead_11 : decode cX5_isAhead 11 = .ok (.iconst 1, 1) := by decide +kernel
theorem dX5_isAhead_12 : decode cX5_isAhead 12 = .ok (.if_icmp .le 7, 3) := by decide +kernel
theorem dX5_isAhead_15 : decode cX5_isAhead 15 = .ok (.iconst 1, 1) := by decide +kernel
theorem dX5_isAhead_16 : decode cX5_isAhead 16 = .ok (.goto 4, 3) := by decide +kernel
theorem dX5_isAhead_19 : decode cX5_isAhead 19 = .ok (.iconst 0, 1) := by decide +kernel
theorem dX5_isAhead_20 : decode cX5_isAhead 20 = .ok (.istore 4, 2) := by decide +kernel
theorem dX5_isAhead_22 : decode cX5_isAhead 22 = .ok (.aload_n 0, 1) := by decide +kernel
theorem dX5_isAhead_23 : decode cX5_isAhead 23 = .ok (.getfield 29, 3) := by decide +kernel
theorem dX5_isAhead_26 : decode cX5_isAhead 26 = .ok (.bipush 20, 2) := by decide +kernel
theorem dX5_isAhead_28 : decode cX5_isAhead 28 = .ok (.iload_n 2, 1) := by decide +kernel
theorem dX5_isAhead_29 : decode cX5_isAhead 29 = .ok (.imul, 1) := by decide +kernel
theorem dX5_isAhead_30 : decode cX5_isAhead 30 = .ok (.iload_n 3, 1) := by decide +kernel
theorem dX5_isAhead_31 : decode cX5_isAhead 31 = .ok (.iadd, 1) := by decide +kernel
theorem dX5_isAhead_32 : decode cX5_isAhead 32 = .ok (.iaload, 1) := by decide +kernel
theorem dX5_isAhead_33 : decode cX5_isAhead 33 = .ok (.iconst 1, 1) := by decide +kernel
theorem dX5_isAhead_34 : decode cX5_isAhead 34 = .ok (.if_icmp .le 7, 3) := by decide +kernel
theorem dX5_isAhead_37 : decode cX5_isAhead 37 = .ok (.iconst 1, 1) := by decide +kernel
theorem dX5_isAhead_38 : decode cX5_isAhead 38 = .ok (.goto 4, 3) := by decide +kernel
theorem dX5_isAhead_41 : decode cX5_isAhead 41 = .ok (.iconst 0, 1) := by decide +kernel
theorem dX5_isAhead_42 : decode cX5_isAhead 42 = .ok (.istore 5, 2) := by decide +kernel
theorem dX5_isAhead_44 : decode cX5_isAhead 44 = .ok (.iload 4, 2) := by decide +kernel
theorem dX5_isAhead_46 : decode cX5_isAhead 46 = .ok (.iload 5, 2) := by decide +kernel
theorem dX5_isAhead_48 : decode cX5_isAhead 48 = .ok (.if_icmp .eq 6, 3) := by decide +kernel
theorem dX5_isAhead_51 : decode cX5_isAhead 51 = .ok (.iload 5, 2) := by decide +kernel
theorem dX5_isAhead_53 : decode cX5_isAhead 53 = .ok (.ireturn, 1) := by decide +kernel
theorem dX5_isAhead_54 : decode cX5_isAhead 54 = .ok (.aload_n 0, 1) := by decide +kernel
theorem dX5_isAhead_55 : decode cX5_isAhead 55 = .ok (.getfield 16, 3) := by decide +kernel
theorem dX5_isAhead_58 : decode cX5_isAhead 58 = .ok (.iload_n 1, 1) := by decide +kernel
theorem dX5_isAhead_59 : decode cX5_isAhead 59 = .ok (.iaload, 1) := by decide +kernel
theorem dX5_isAhead_60 : decode cX5_isAhead 60 = .ok (.aload_n 0, 1) := by decide +kernel
theorem dX5_isAhead_61 : decode cX5_isAhead 61 = .ok (.getfield 16, 3) := by decide +kernel
theorem dX5_isAhead_64 : decode cX5_isAhead 64 = .ok (.iload_n 2, 1) := by decide +kernel
theorem dX5_isAhead_65 : decode cX5_isAhead 65 = .ok (.iaload, 1) := by decide +kernel
theorem dX5_isAhead_66 : decode cX5_isAhead 66 = .ok (.if_icmp .eq 24, 3) := by decide +kernel
theorem dX5_isAhead_69 : decode cX5_isAhead 69 = .ok (.aload_n 0, 1) := by decide +kernel
theorem dX5_isAhead_70 : decode cX5_isAhead 70 = .ok (.getfield 16, 3) := by decide +kernel
theorem dX5_isAhead_73 : decode cX5_isAhead 73 = .ok (.iload_n 1, 1) := by decide +kernel
theorem dX5_isAhead_74 : decode cX5_isAhead 74 = .ok (.iaload, 1) := by decide +kernel
theorem dX5_isAhead_75 : decode cX5_isAhead 75 = .ok (.aload_n 0, 1) := by decide +kernel
theorem dX5_isAhead_76 : decode cX5_isAhead 76 = .ok (.getfield 16, 3) := by decide +kernel
theorem dX5_isAhead_79 : decode cX5_isAhead 79 = .ok (.iload_n 2, 1) := by decide +kernel
theorem dX5_isAhead_80 : decode cX5_isAhead 80 = .ok (.iaload, 1) := by decide +kernel
theorem dX5_isAhead_81 : decode cX5_isAhead 81 = .ok (.if_icmp .ge 7, 3) := by decide +kernel
theorem dX5_isAhead_84 : decode cX5_isAhead 84 = .ok (.iconst 1, 1) := by decide +kernel
theorem dX5_isAhead_85 : decode cX5_isAhead 85 = .ok (.goto 4, 3) := by decide +kernel
theorem dX5_isAhead_88 : decode cX5_isAhead 88 = .ok (.iconst 0, 1) := by decide +kernel
theorem dX5_isAhead_89 : decode cX5_isAhead 89 = .ok (.ireturn, 1) := by decide +kernel
theorem dX5_isAhead_90 : decode cX5_isAhead 90 = .ok (.aload_n 0, 1) := by decide +kernel
theorem dX5_isAhead_91 : decode cX5_isAhead 91 = .ok (.getfield 19, 3) := by decide +kernel
theorem dX5_isAhead_94 : decode cX5_isAhead 94 = .ok (.iload_n 1, 1) := by decide +kernel
theorem dX5_isAhead_95 : decode cX5_isAhead 95 = .ok (.iaload, 1) := by decide +kernel
theorem dX5_isAhead_96 : decode cX5_isAhead 96 = .ok (.aload_n 0, 1) := by decide +kernel
theorem dX5_isAhead_97 : decode cX5_isAhead 97 = .ok (.getfield 19, 3) := by decide +kernel
theorem dX5_isAhead_100 : decode cX5_isAhead 100 = .ok (.iload_n 2, 1) := by decide +kernel
theorem dX5_isAhead_101 : decode cX5_isAhead 101 = .ok (.iaload, 1) := by decide +kernel
theorem dX5_isAhead_102 : decode cX5_isAhead 102 = .ok (.if_icmp .lt 23, 3) := by decide +kernel
theorem dX5_isAhead_105 : decode cX5_isAhead 105 = .ok (.aload_n 0, 1) := by decide +kernel
theorem dX5_isAhead_106 : decode cX5_isAhead 106 = .ok (.getfield 19, 3) := by decide +kernel
theorem dX5_isAhead_109 : decode cX5_isAhead 109 = .ok (.iload_n 1, 1) := by decide +kernel
theorem dX5_isAhead_110 : decode cX5_isAhead 110 = .ok (.iaload, 1) := by decide +kernel
theorem dX5_isAhead_111 : decode cX5_isAhead 111 = .ok (.aload_n 0, 1) := by decide +kernel
theorem dX5_isAhead_112 : decode cX5_isAhead 112 = .ok (.getfield 19, 3) := by decide +kernel
theorem dX5_isAhead_115 : decode cX5_isAhead 115 = .ok (.iload_n 2, 1) := by decide +kernel
theorem dX5_isAhead_116 : decode cX5_isAhead 116 = .ok (.iaload, 1) := by decide +kernel
theorem dX5_isAhead_117 : decode cX5_isAhead 117 = .ok (.if_icmp .ne 12, 3) := by decide +kernel
theorem dX5_isAhead_120 : decode cX5_isAhead 120 = .ok (.iload_n 1, 1) := by decide +kernel
theorem dX5_isAhead_121 : decode cX5_isAhead 121 = .ok (.iload_n 2, 1) := by decide +kernel
theorem dX5_isAhead_122 : decode cX5_isAhead 122 = .ok (.if_icmp .ge 7, 3) := by decide +kernel
theorem dX5_isAhead_125 : decode cX5_isAhead 125 = .ok (.iconst 1, 1) := by decide +kernel
theorem dX5_isAhead_126 : decode cX5_isAhead 126 = .ok (.goto 4, 3) := by decide +kernel
theorem dX5_isAhead_129 : decode cX5_isAhead 129 = .ok (.iconst 0, 1) := by decide +kernel
theorem dX5_isAhead_130 : decode cX5_isAhead 130 = .ok (.ireturn, 1) := by decide +kernel
set_option maxRecDepth 20000 in
theorem ggX5_wayAt_X5_isAsked : GoodIn wsX5_wayAt wsX5_isAsked := goodIn_r _ [6, 7, 8, 9, 5, 10, 68, 69, 70, 71, 72, 73, 74, 75, 76, 77, 78, 79, 80, 81, 82, 83, 84, 85] (by decide +kernel) (by decide +kernel)
set_option maxRecDepth 20000 in
theorem gX5_wayAt_X5_isAsked : GoodIn wsX5_wayAt (wsV RX5 104 RX5 yX5_isAsked wsX5_isAsked) := goodIn_app (goodIn_of _ (by decide +kernel)) ggX5_wayAt_X5_isAsked
set_option maxRecDepth 20000 in
theorem ggX5_wayAt_X5_isTitle : GoodIn wsX5_wayAt wsX5_isTitle := goodIn_r _ [14, 15, 68, 69, 70, 71, 72, 73, 74, 75, 76, 77, 78, 79, 80, 81, 82, 83, 84, 85] (by decide +kernel) (by decide +kernel)
set_option maxRecDepth 20000 in
theorem gX5_wayAt_X5_isTitle : GoodIn wsX5_wayAt (wsV RX5 68 RX5 yX5_isTitle wsX5_isTitle) := goodIn_app (goodIn_of _ (by decide +kernel)) ggX5_wayAt_X5_isTitle
set_option maxRecDepth 20000 in
theorem ggX5_wayAt_X5_waysTo : GoodIn wsX5_wayAt wsX5_waysTo := goodIn_r _ [19, 1, 20, 21, 22, 5, 23, 24, 25, 26, 27, 28, 29, 30, 31, 32, 33, 34, 35, 36, 37, 38, 39, 40, 41, 42, 43, 8, 9, 10, 44, 45, 46, 47, 48, 49, 50, 51, 52, 53, 54, 55, 68, 69, 70, 71, 72, 73, 74, 75, 76, 77, 78, 79, 80, 81, 82, 83, 84, 85] (by decide +kernel) (by decide +kernel)
set_option maxRecDepth 20000 in
theorem gX5_wayAt_X5_waysTo : GoodIn wsX5_wayAt (wsV RX5 113 RX5 yX5_waysTo wsX5_waysTo) := goodIn_app (goodIn_of _ (by decide +kernel)) ggX5_wayAt_X5_waysTo
set_option maxRecDepth 20000 in
theorem ggX5_wayAt_X5_holds : GoodIn wsX5_wayAt wsX5_holds := goodIn_r _ [59, 60, 68, 69, 70, 71, 72, 73, 74, 75, 76, 77, 78, 79, 80, 81, 82, 83, 84, 85] (by decide +kernel) (by decide +kernel)
set_option maxRecDepth 20000 in
theorem gX5_wayAt_X5_holds : GoodIn wsX5_wayAt (wsV RX5 64 RX5 yX5_holds wsX5_holds) := goodIn_app (goodIn_of _ (by decide +kernel)) ggX5_wayAt_X5_holds
set_option maxRecDepth 20000 in
theorem ggX5_wayAt_X5_isAhead : GoodIn wsX5_wayAt wsX5_isAhead := goodIn_r _ [64, 65, 66, 67, 68, 69, 70, 71, 72, 73, 74, 75, 76, 77, 78, 79, 80, 81, 82, 83, 84, 85] (by decide +kernel) (by decide +kernel)
set_option maxRecDepth 20000 in
theorem gX5_wayAt_X5_isAhead : GoodIn wsX5_wayAt (wsV RX5 117 RX5 yX5_isAhead wsX5_isAhead) := goodIn_app (goodIn_of _ (by decide +kernel)) ggX5_wayAt_X5_isAhead
set_option maxRecDepth 20000 in
theorem ggX5_wayAt_X5_lets : GoodIn wsX5_wayAt wsX5_lets := goodIn_r _ [23, 24, 68, 69, 70, 71, 72, 73, 74, 75, 76, 77, 78, 79, 80, 81, 82, 83, 84, 85] (by decide +kernel) (by decide +kernel)
set_option maxRecDepth 20000 in
theorem gX5_wayAt_X5_lets : GoodIn wsX5_wayAt (wsV RX5 107 RX5 yX5_lets wsX5_lets) := goodIn_app (goodIn_of _ (by decide +kernel)) ggX5_wayAt_X5_lets
set_option maxRecDepth 20000 in
theorem ggX5_wayAt_X5_isCovered : GoodIn wsX5_wayAt wsX5_isCovered := goodIn_r _ [28, 29, 30, 31, 5, 32, 33, 34, 35, 36, 37, 38, 39, 40, 41, 42, 43, 8, 9, 10, 44, 45, 46, 47, 48, 49, 50, 51, 52, 53, 54, 55, 68, 69, 70, 71, 72, 73, 74, 75, 76, 77, 78, 79, 80, 81, 82, 83, 84, 85] (by decide +kernel) (by decide +kernel)
set_option maxRecDepth 20000 in
theorem gX5_wayAt_X5_isCovered : GoodIn wsX5_wayAt (wsV RX5 110 RX5 yX5_isCovered wsX5_isCovered) := goodIn_app (goodIn_of _ (by decide +kernel)) ggX5_wayAt_X5_isCovered
theorem dX5_wayAt_0 : decode cX5_wayAt 0 = .ok (.aload_n 0, 1) := by decide +kernel
theorem dX5_wayAt_1 : decode cX5_wayAt 1 = .ok (.iload_n 3, 1) := by decide +kernel
theorem dX5_wayAt_2 : decode cX5_wayAt 2 = .ok (.iload 4, 2) := by decide +kernel
theorem dX5_wayAt_4 : decode cX5_wayAt 4 = .ok (.iload 5, 2) := by decide +kernel
theorem dX5_wayAt_6 : decode cX5_wayAt 6 = .ok (.invokevirtual 104, 3) := by decide +kernel
theorem dX5_wayAt_9 : decode cX5_wayAt 9 = .ok (.istore 6, 2) := by decide +kernel
theorem dX5_wayAt_11 : decode cX5_wayAt 11 = .ok (.iload 6, 2) := by decide +kernel
theorem dX5_wayAt_13 : decode cX5_wayAt 13 = .ok (.ifCond .eq 33, 3) := by decide +kernel
theorem dX5_wayAt_16 : decode cX5_wayAt 16 = .ok (.aload_n 0, 1) := by decide +kernel
theorem dX5_wayAt_17 : decode cX5_wayAt 17 = .ok (.iload_n 2, 1) := by decide +kernel
theorem dX5_wayAt_18 : decode cX5_wayAt 18 = .ok (.invokevirtual 68, 3) := by decide +kernel
theorem dX5_wayAt_21 : decode cX5_wayAt 21 = .ok (.ifCond .eq 25, 3) := by decide +kernel
theorem dX5_wayAt_24 : decode cX5_wayAt 24 = .ok (.iload_n 1, 1) := by decide +kernel
theorem dX5_wayAt_25 : decode cX5_wayAt 25 = .ok (.ifCond .lt 21, 3) := by decide +kernel
theorem dX5_wayAt_28 : decode cX5_wayAt 28 = .ok (.iload_n 1, 1) := by decide +kernel
theorem dX5_wayAt_29 : decode cX5_wayAt 29 = .ok (.aload_n 0, 1) := by decide +kernel
theorem dX5_wayAt_30 : decode cX5_wayAt 30 = .ok (.iload_n 2, 1) := by decide +kernel
theorem dX5_wayAt_31 : decode cX5_wayAt 31 = .ok (.iload_n 3, 1) := by decide +kernel
theorem dX5_wayAt_32 : decode cX5_wayAt 32 = .ok (.iload 4, 2) := by decide +kernel
theorem dX5_wayAt_34 : decode cX5_wayAt 34 = .ok (.iload 5, 2) := by decide +kernel
theorem dX5_wayAt_36 : decode cX5_wayAt 36 = .ok (.invokevirtual 113, 3) := by decide +kernel
theorem dX5_wayAt_39 : decode cX5_wayAt 39 = .ok (.if_icmp .ge 7, 3) := by decide +kernel
theorem dX5_wayAt_42 : decode cX5_wayAt 42 = .ok (.iconst 1, 1) := by decide +kernel
theorem dX5_wayAt_43 : decode cX5_wayAt 43 = .ok (.goto 4, 3) := by decide +kernel
theorem dX5_wayAt_46 : decode cX5_wayAt 46 = .ok (.iconst 0, 1) := by decide +kernel
theorem dX5_wayAt_47 : decode cX5_wayAt 47 = .ok (.istore 7, 2) := by decide +kernel
theorem dX5_wayAt_49 : decode cX5_wayAt 49 = .ok (.aload_n 0, 1) := by decide +kernel
theorem dX5_wayAt_50 : decode cX5_wayAt 50 = .ok (.iload 6, 2) := by decide +kernel
theorem dX5_wayAt_52 : decode cX5_wayAt 52 = .ok (.ifCond .ne 7, 3) := by decide +kernel
theorem dX5_wayAt_55 : decode cX5_wayAt 55 = .ok (.iconst 1, 1) := by decide +kernel
theorem dX5_wayAt_56 : decode cX5_wayAt 56 = .ok (.goto 13, 3) := by decide +kernel
theorem dX5_wayAt_59 : decode cX5_wayAt 59 = .ok (.iload 7, 2) := by decide +kernel
theorem dX5_wayAt_61 : decode cX5_wayAt 61 = .ok (.ifCond .eq 7, 3) := by decide +kernel
theorem dX5_wayAt_64 : decode cX5_wayAt 64 = .ok (.iconst 0, 1) := by decide +kernel
theorem dX5_wayAt_65 : decode cX5_wayAt 65 = .ok (.goto 4, 3) := by decide +kernel
theorem dX5_wayAt_68 : decode cX5_wayAt 68 = .ok (.iconst 2, 1) := by decide +kernel
theorem dX5_wayAt_69 : decode cX5_wayAt 69 = .ok (.invokevirtual 64, 3) := by decide +kernel
theorem dX5_wayAt_72 : decode cX5_wayAt 72 = .ok (.ifCond .ne 5, 3) := by decide +kernel
theorem dX5_wayAt_75 : decode cX5_wayAt 75 = .ok (.iconst 0, 1) := by decide +kernel
theorem dX5_wayAt_76 : decode cX5_wayAt 76 = .ok (.ireturn, 1) := by decide +kernel
theorem dX5_wayAt_77 : decode cX5_wayAt 77 = .ok (.iconst (-1), 1) := by decide +kernel
theorem dX5_wayAt_78 : decode cX5_wayAt 78 = .ok (.istore 8, 2) := by decide +kernel
theorem dX5_wayAt_80 : decode cX5_wayAt 80 = .ok (.iconst 0, 1) := by decide +kernel
theorem dX5_wayAt_81 : decode cX5_wayAt 81 = .ok (.istore 9, 2) := by decide +kernel
theorem dX5_wayAt_83 : decode cX5_wayAt 83 = .ok (.iload 9, 2) := by decide +kernel
theorem dX5_wayAt_85 : decode cX5_wayAt 85 = .ok (.aload_n 0, 1) := by decide +kernel
theorem dX5_wayAt_86 : decode cX5_wayAt 86 = .ok (.getfield 57, 3) := by decide +kernel
theorem dX5_wayAt_89 : decode cX5_wayAt 89 = .ok (.if_icmp .ge 122, 3) := by decide +kernel
theorem dX5_wayAt_92 : decode cX5_wayAt 92 = .ok (.iconst 0, 1) := by decide +kernel
theorem dX5_wayAt_93 : decode cX5_wayAt 93 = .ok (.istore 10, 2) := by decide +kernel
theorem dX5_wayAt_95 : decode cX5_wayAt 95 = .ok (.iconst 0, 1) := by decide +kernel
theorem dX5_wayAt_96 : decode cX5_wayAt 96 = .ok (.istore 11, 2) := by decide +kernel
theorem dX5_wayAt_98 : decode cX5_wayAt 98 = .ok (.iload 11, 2) := by decide +kernel
theorem dX5_wayAt_100 : decode cX5_wayAt 100 = .ok (.aload_n 0, 1) := by decide +kernel
theorem dX5_wayAt_101 : decode cX5_wayAt 101 = .ok (.getfield 57, 3) := by decide +kernel
theorem dX5_wayAt_104 : decode cX5_wayAt 104 = .ok (.if_icmp .ge 62, 3) := by decide +kernel
theorem dX5_wayAt_107 : decode cX5_wayAt 107 = .ok (.iload 10, 2) := by decide +kernel
theorem dX5_wayAt_109 : decode cX5_wayAt 109 = .ok (.iload 11, 2) := by decide +kernel
theorem dX5_wayAt_111 : decode cX5_wayAt 111 = .ok (.iload 9, 2) := by decide +kernel
theorem dX5_wayAt_113 : decode cX5_wayAt 113 = .ok (.if_icmp .eq 43, 3) := by decide +kernel
theorem dX5_wayAt_116 : decode cX5_wayAt 116 = .ok (.aload_n 0, 1) := by decide +kernel
theorem dX5_wayAt_117 : decode cX5_wayAt 117 = .ok (.iload 11, 2) := by decide +kernel
theorem dX5_wayAt_119 : decode cX5_wayAt 119 = .ok (.iload 9, 2) := by decide +kernel
theorem dX5_wayAt_121 : decode cX5_wayAt 121 = .ok (.iload_n 2, 1) := by decide +kernel
theorem dX5_wayAt_122 : decode cX5_wayAt 122 = .ok (.invokevirtual 117, 3) := by decide +kernel
theorem dX5_wayAt_125 : decode cX5_wayAt 125 = .ok (.ifCond .eq 31, 3) := by decide +kernel
theorem dX5_wayAt_128 : decode cX5_wayAt 128 = .ok (.aload_n 0, 1) := by decide +kernel
theorem dX5_wayAt_129 : decode cX5_wayAt 129 = .ok (.iload 11, 2) := by decide +kernel
theorem dX5_wayAt_131 : decode cX5_wayAt 131 = .ok (.iload 4, 2) := by decide +kernel
theorem dX5_wayAt_133 : decode cX5_wayAt 133 = .ok (.invokevirtual 107, 3) := by decide +kernel
theorem dX5_wayAt_136 : decode cX5_wayAt 136 = .ok (.ifCond .eq 20, 3) := by decide +kernel
theorem dX5_wayAt_139 : decode cX5_wayAt 139 = .ok (.aload_n 0, 1) := by decide +kernel
theorem dX5_wayAt_140 : decode cX5_wayAt 140 = .ok (.iload 11, 2) := by decide +kernel
theorem dX5_wayAt_142 : decode cX5_wayAt 142 = .ok (.iload_n 2, 1) := by decide +kernel
theorem dX5_wayAt_143 : decode cX5_wayAt 143 = .ok (.iload_n 3, 1) := by decide +kernel
theorem dX5_wayAt_144 : decode cX5_wayAt 144 = .ok (.iload 5, 2) := by decide +kernel
theorem dX5_wayAt_146 : decode cX5_wayAt 146 = .ok (.invokevirtual 110, 3) := by decide +kernel
theorem dX5_wayAt_149 : decode cX5_wayAt 149 = .ok (.ifCond .eq 7, 3) := by decide +kernel
theorem dX5_wayAt_152 : decode cX5_wayAt 152 = .ok (.iconst 1, 1) := by decide +kernel
theorem dX5_wayAt_153 : decode cX5_wayAt 153 = .ok (.goto 4, 3) := by decide +kernel
theorem dX5_wayAt_156 : decode cX5_wayAt 156 = .ok (.iconst 0, 1) := by decide +kernel
theorem dX5_wayAt_157 : decode cX5_wayAt 157 = .ok (.iadd, 1) := by decide +kernel
theorem dX5_wayAt_158 : decode cX5_wayAt 158 = .ok (.istore 10, 2) := by decide +kernel
theorem dX5_wayAt_160 : decode cX5_wayAt 160 = .ok (.iinc 11 1, 3) := by decide +kernel
theorem dX5_wayAt_163 : decode cX5_wayAt 163 = .ok (.goto (-65), 3) := by decide +kernel
theorem dX5_wayAt_166 : decode cX5_wayAt 166 = .ok (.iload 10, 2) := by decide +kernel
theorem dX5_wayAt_168 : decode cX5_wayAt 168 = .ok (.iload_n 1, 1) := by decide +kernel
theorem dX5_wayAt_169 : decode cX5_wayAt 169 = .ok (.if_icmp .ne 32, 3) := by decide +kernel
theorem dX5_wayAt_172 : decode cX5_wayAt 172 = .ok (.aload_n 0, 1) := by decide +kernel
theorem dX5_wayAt_173 : decode cX5_wayAt 173 = .ok (.iload 9, 2) := by decide +kernel
theorem dX5_wayAt_175 : decode cX5_wayAt 175 = .ok (.iload 4, 2) := by decide +kernel
theorem dX5_wayAt_177 : decode cX5_wayAt 177 = .ok (.invokevirtual 107, 3) := by decide +kernel
theorem dX5_wayAt_180 : decode cX5_wayAt 180 = .ok (.ifCond .eq 21, 3) := by decide +kernel
theorem dX5_wayAt_183 : decode cX5_wayAt 183 = .ok (.aload_n 0, 1) := by decide +kernel
theorem dX5_wayAt_184 : decode cX5_wayAt 184 = .ok (.iload 9, 2) := by decide +kernel
theorem dX5_wayAt_186 : decode cX5_wayAt 186 = .ok (.iload_n 2, 1) := by decide +kernel
theorem dX5_wayAt_187 : decode cX5_wayAt 187 = .ok (.iload_n 3, 1) := by decide +kernel
theorem dX5_wayAt_188 : decode cX5_wayAt 188 = .ok (.iload 5, 2) := by decide +kernel
theorem dX5_wayAt_190 : decode cX5_wayAt 190 = .ok (.invokevirtual 110, 3) := by decide +kernel
theorem dX5_wayAt_193 : decode cX5_wayAt 193 = .ok (.ifCond .eq 8, 3) := by decide +kernel
theorem dX5_wayAt_196 : decode cX5_wayAt 196 = .ok (.iload 9, 2) := by decide +kernel
theorem dX5_wayAt_198 : decode cX5_wayAt 198 = .ok (.goto 5, 3) := by decide +kernel
theorem dX5_wayAt_201 : decode cX5_wayAt 201 = .ok (.iload 8, 2) := by decide +kernel
theorem dX5_wayAt_203 : decode cX5_wayAt 203 = .ok (.istore 8, 2) := by decide +kernel
theorem dX5_wayAt_205 : decode cX5_wayAt 205 = .ok (.iinc 9 1, 3) := by decide +kernel
theorem dX5_wayAt_208 : decode cX5_wayAt 208 = .ok (.goto (-125), 3) := by decide +kernel
theorem dX5_wayAt_211 : decode cX5_wayAt 211 = .ok (.iload 8, 2) := by decide +kernel
theorem dX5_wayAt_213 : decode cX5_wayAt 213 = .ok (.ireturn, 1) := by decide +kernel
set_option maxRecDepth 20000 in
theorem ggX5_isOfTitle_X5_isTitle : GoodIn wsX5_isOfTitle wsX5_isTitle := goodIn_r _ [5, 6, 15, 16, 17, 18, 19, 20, 21, 22, 23, 24, 25, 26, 27, 28, 29, 30, 31, 32] (by decide +kernel) (by decide +kernel)
set_option maxRecDepth 20000 in
theorem gX5_isOfTitle_X5_isTitle : GoodIn wsX5_isOfTitle (wsV RX5 68 RX5 yX5_isTitle wsX5_isTitle) := goodIn_app (goodIn_of _ (by decide +kernel)) ggX5_isOfTitle_X5_isTitle
set_option maxRecDepth 20000 in
theorem ggX5_isOfTitle_X5_isBetween : GoodIn wsX5_isOfTitle wsX5_isBetween := goodIn_r _ [9] (by decide +kernel) (by decide +kernel)
set_option maxRecDepth 20000 in
theorem gX5_isOfTitle_X5_isBetween : GoodIn wsX5_isOfTitle (va_wsS RX5 60 yX5_isBetween wsX5_isBetween) := goodIn_app (goodIn_of _ (by decide +kernel)) ggX5_isOfTitle_X5_isBetween
set_option maxRecDepth 20000 in
theorem ggX5_isOfTitle_X5_holds : GoodIn wsX5_isOfTitle wsX5_holds := goodIn_r _ [13, 14, 15, 16, 17, 18, 19, 20, 21, 22, 23, 24, 25, 26, 27, 28, 29, 30, 31, 32] (by decide +kernel) (by decide +kernel)
set_option maxRecDepth 20000 in
theorem gX5_isOfTitle_X5_holds : GoodIn wsX5_isOfTitle (wsV RX5 64 RX5 yX5_holds wsX5_holds) := goodIn_app (goodIn_of _ (by decide +kernel)) ggX5_isOfTitle_X5_holds
theorem dX5_isOfTitle_0 : decode cX5_isOfTitle 0 = .ok (.aload_n 0, 1) := by decide +kernel
theorem dX5_isOfTitle_1 : decode cX5_isOfTitle 1 = .ok (.aload_n 0, 1) := by decide +kernel
theorem dX5_isOfTitle_2 : decode cX5_isOfTitle 2 = .ok (.iload_n 1, 1) := by decide +kernel
theorem dX5_isOfTitle_3 : decode cX5_isOfTitle 3 = .ok (.invokevirtual 68, 3) := by decide +kernel
theorem dX5_isOfTitle_6 : decode cX5_isOfTitle 6 = .ok (.ifCond .ne 7, 3) := by decide +kernel
theorem dX5_isOfTitle_9 : decode cX5_isOfTitle 9 = .ok (.iconst 1, 1) := by decide +kernel
theorem dX5_isOfTitle_10 : decode cX5_isOfTitle 10 = .ok (.goto 17, 3) := by decide +kernel
theorem dX5_isOfTitle_13 : decode cX5_isOfTitle 13 = .ok (.iload_n 2, 1) := by decide +kernel
theorem dX5_isOfTitle_14 : decode cX5_isOfTitle 14 = .ok (.iconst 0, 1) := by decide +kernel
theorem dX5_isOfTitle_15 : decode cX5_isOfTitle 15 = .ok (.iconst 3, 1) := by decide +kernel
theorem dX5_isOfTitle_16 : decode cX5_isOfTitle 16 = .ok (.invokestatic 60, 3) := by decide +kernel
theorem dX5_isOfTitle_19 : decode cX5_isOfTitle 19 = .ok (.ifCond .eq 7, 3) := by decide +kernel
theorem dX5_isOfTitle_22 : decode cX5_isOfTitle 22 = .ok (.iconst 0, 1) := by decide +kernel
theorem dX5_isOfTitle_23 : decode cX5_isOfTitle 23 = .ok (.goto 4, 3) := by decide +kernel
theorem dX5_isOfTitle_26 : decode cX5_isOfTitle 26 = .ok (.iconst 2, 1) := by decide +kernel
theorem dX5_isOfTitle_27 : decode cX5_isOfTitle 27 = .ok (.invokevirtual 64, 3) := by decide +kernel
theorem dX5_isOfTitle_30 : decode cX5_isOfTitle 30 = .ok (.ireturn, 1) := by decide +kernel
set_option maxRecDepth 20000 in
theorem ggX5_gap_X5_isOfTitle : GoodIn wsX5_gap wsX5_isOfTitle := goodIn_r _ [7, 8, 9, 10, 6, 11, 12, 13, 14, 15, 16, 17, 18, 19, 20, 62, 63, 64, 65, 66, 67, 68, 69, 70, 71, 72, 73, 74, 75, 76, 77, 78, 79] (by decide +kernel) (by decide +kernel)
set_option maxRecDepth 20000 in
theorem gX5_gap_X5_isOfTitle : GoodIn wsX5_gap (wsV RX5 120 RX5 yX5_isOfTitle wsX5_isOfTitle) := goodIn_app (goodIn_of _ (by decide +kernel)) ggX5_gap_X5_isOfTitle
set_option maxRecDepth 20000 in
theorem ggX5_gap_X5_waysTo : GoodIn wsX5_gap wsX5_waysTo := goodIn_r _ [24, 25, 26, 27, 28, 6, 29, 30, 31, 32, 33, 34, 35, 36, 37, 38, 39, 40, 41, 42, 43, 44, 45, 46, 47, 48, 49, 13, 14, 15, 50, 51, 52, 53, 54, 55, 56, 57, 58, 59, 60, 61, 62, 63, 64, 65, 66, 67, 68, 69, 70, 71, 72, 73, 74, 75, 76, 77, 78, 79] (by decide +kernel) (by decide +kernel)
set_option maxRecDepth 20000 in
theorem gX5_gap_X5_waysTo : GoodIn wsX5_gap (wsV RX5 113 RX5 yX5_waysTo wsX5_waysTo) := goodIn_app (goodIn_of _ (by decide +kernel)) ggX5_gap_X5_waysTo
theorem dX5_gap_0 : decode cX5_gap 0 = .ok (.aload_n 0, 1) := by decide +kernel
theorem dX5_gap_1 : decode cX5_gap 1 = .ok (.iload_n 1, 1) := by decide +kernel
theorem dX5_gap_2 : decode cX5_gap 2 = .ok (.iload_n 2, 1) := by decide +kernel
theorem dX5_gap_3 : decode cX5_gap 3 = .ok (.invokevirtual 120, 3) := by decide +kernel
theorem dX5_gap_6 : decode cX5_gap 6 = .ok (.ifCond .ne 5, 3) := by decide +kernel
theorem dX5_gap_9 : decode cX5_gap 9 = .ok (.iconst 0, 1) := by decide +kernel
theorem dX5_gap_10 : decode cX5_gap 10 = .ok (.ireturn, 1) := by decide +kernel
theorem dX5_gap_11 : decode cX5_gap 11 = .ok (.iconst (-1), 1) := by decide +kernel
theorem dX5_gap_12 : decode cX5_gap 12 = .ok (.istore_n 3, 1) := by decide +kernel
theorem dX5_gap_13 : decode cX5_gap 13 = .ok (.aload_n 0, 1) := by decide +kernel
theorem dX5_gap_14 : decode cX5_gap 14 = .ok (.getfield 78, 3) := by decide +kernel
theorem dX5_gap_17 : decode cX5_gap 17 = .ok (.sipush 360, 3) := by decide +kernel
theorem dX5_gap_20 : decode cX5_gap 20 = .ok (.idiv, 1) := by decide +kernel
theorem dX5_gap_21 : decode cX5_gap 21 = .ok (.istore 4, 2) := by decide +kernel
theorem dX5_gap_23 : decode cX5_gap 23 = .ok (.iload 4, 2) := by decide +kernel
theorem dX5_gap_25 : decode cX5_gap 25 = .ok (.aload_n 0, 1) := by decide +kernel
theorem dX5_gap_26 : decode cX5_gap 26 = .ok (.getfield 7, 3) := by decide +kernel
theorem dX5_gap_29 : decode cX5_gap 29 = .ok (.iload_n 1, 1) := by decide +kernel
theorem dX5_gap_30 : decode cX5_gap 30 = .ok (.iaload, 1) := by decide +kernel
theorem dX5_gap_31 : decode cX5_gap 31 = .ok (.if_icmp .lt 31, 3) := by decide +kernel
theorem dX5_gap_34 : decode cX5_gap 34 = .ok (.aload_n 0, 1) := by decide +kernel
theorem dX5_gap_35 : decode cX5_gap 35 = .ok (.iload_n 1, 1) := by decide +kernel
theorem dX5_gap_36 : decode cX5_gap 36 = .ok (.iload 4, 2) := by decide +kernel
theorem dX5_gap_38 : decode cX5_gap 38 = .ok (.iload_n 2, 1) := by decide +kernel
theorem dX5_gap_39 : decode cX5_gap 39 = .ok (.aload_n 0, 1) := by decide +kernel
theorem dX5_gap_40 : decode cX5_gap 40 = .ok (.getfield 78, 3) := by decide +kernel
theorem dX5_gap_43 : decode cX5_gap 43 = .ok (.invokevirtual 113, 3) := by decide +kernel
theorem dX5_gap_46 : decode cX5_gap 46 = .ok (.ifCond .ne 8, 3) := by decide +kernel
theorem dX5_gap_49 : decode cX5_gap 49 = .ok (.iload 4, 2) := by decide +kernel
theorem dX5_gap_51 : decode cX5_gap 51 = .ok (.goto 4, 3) := by decide +kernel
theorem dX5_gap_54 : decode cX5_gap 54 = .ok (.iload_n 3, 1) := by decide +kernel
theorem dX5_gap_55 : decode cX5_gap 55 = .ok (.istore_n 3, 1) := by decide +kernel
theorem dX5_gap_56 : decode cX5_gap 56 = .ok (.iinc 4 (-1), 3) := by decide +kernel
theorem dX5_gap_59 : decode cX5_gap 59 = .ok (.goto (-36), 3) := by decide +kernel
theorem dX5_gap_62 : decode cX5_gap 62 = .ok (.iload_n 3, 1) := by decide +kernel
theorem dX5_gap_63 : decode cX5_gap 63 = .ok (.ireturn, 1) := by decide +kernel
set_option maxRecDepth 20000 in
theorem ggX5_doubles_X5_isOfTitle : GoodIn wsX5_doubles wsX5_isOfTitle := goodIn_r _ [7, 8, 9, 10, 6, 11, 12, 13, 14, 15, 16, 17, 18, 19, 20, 62, 63, 64, 65, 66, 67, 68, 69, 70, 71, 72, 73, 74, 75, 76, 77, 78, 79] (by decide +kernel) (by decide +kernel)
set_option maxRecDepth 20000 in
theorem gX5_doubles_X5_isOfTitle : GoodIn wsX5_doubles (wsV RX5 120 RX5 yX5_isOfTitle wsX5_isOfTitle) := goodIn_app (goodIn_of _ (by decide +kernel)) ggX5_doubles_X5_isOfTitle
set_option maxRecDepth 20000 in
theorem ggX5_doubles_X5_waysTo : GoodIn wsX5_doubles wsX5_waysTo := goodIn_r _ [24, 25, 26, 27, 28, 6, 29, 30, 31, 32, 33, 34, 35, 36, 37, 38, 39, 40, 41, 42, 43, 44, 45, 46, 47, 48, 49, 13, 14, 15, 50, 51, 52, 53, 54, 55, 56, 57, 58, 59, 60, 61, 62, 63, 64, 65, 66, 67, 68, 69, 70, 71, 72, 73, 74, 75, 76, 77, 78, 79] (by decide +kernel) (by decide +kernel)
set_option maxRecDepth 20000 in
theorem gX5_doubles_X5_waysTo : GoodIn wsX5_doubles (wsV RX5 113 RX5 yX5_waysTo wsX5_waysTo) := goodIn_app (goodIn_of _ (by decide +kernel)) ggX5_doubles_X5_waysTo
theorem dX5_doubles_0 : decode cX5_doubles 0 = .ok (.aload_n 0, 1) := by decide +kernel
theorem dX5_doubles_1 : decode cX5_doubles 1 = .ok (.iload_n 1, 1) := by decide +kernel
theorem dX5_doubles_2 : decode cX5_doubles 2 = .ok (.iload_n 2, 1) := by decide +kernel
theorem dX5_doubles_3 : decode cX5_doubles 3 = .ok (.invokevirtual 120, 3) := by decide +kernel
theorem dX5_doubles_6 : decode cX5_doubles 6 = .ok (.ifCond .ne 5, 3) := by decide +kernel
theorem dX5_doubles_9 : decode cX5_doubles 9 = .ok (.iconst 0, 1) := by decide +kernel
theorem dX5_doubles_10 : decode cX5_doubles 10 = .ok (.ireturn, 1) := by decide +kernel
theorem dX5_doubles_11 : decode cX5_doubles 11 = .ok (.iconst 0, 1) := by decide +kernel
theorem dX5_doubles_12 : decode cX5_doubles 12 = .ok (.istore_n 3, 1) := by decide +kernel
theorem dX5_doubles_13 : decode cX5_doubles 13 = .ok (.aload_n 0, 1) := by decide +kernel
theorem dX5_doubles_14 : decode cX5_doubles 14 = .ok (.getfield 7, 3) := by decide +kernel
theorem dX5_doubles_17 : decode cX5_doubles 17 = .ok (.iload_n 1, 1) := by decide +kernel
theorem dX5_doubles_18 : decode cX5_doubles 18 = .ok (.iaload, 1) := by decide +kernel
theorem dX5_doubles_19 : decode cX5_doubles 19 = .ok (.istore 4, 2) := by decide +kernel
theorem dX5_doubles_21 : decode cX5_doubles 21 = .ok (.iload 4, 2) := by decide +kernel
theorem dX5_doubles_23 : decode cX5_doubles 23 = .ok (.aload_n 0, 1) := by decide +kernel
theorem dX5_doubles_24 : decode cX5_doubles 24 = .ok (.getfield 78, 3) := by decide +kernel
theorem dX5_doubles_27 : decode cX5_doubles 27 = .ok (.sipush 360, 3) := by decide +kernel
theorem dX5_doubles_30 : decode cX5_doubles 30 = .ok (.idiv, 1) := by decide +kernel
theorem dX5_doubles_31 : decode cX5_doubles 31 = .ok (.if_icmp .gt 33, 3) := by decide +kernel
theorem dX5_doubles_34 : decode cX5_doubles 34 = .ok (.iload_n 3, 1) := by decide +kernel
theorem dX5_doubles_35 : decode cX5_doubles 35 = .ok (.aload_n 0, 1) := by decide +kernel
theorem dX5_doubles_36 : decode cX5_doubles 36 = .ok (.iload_n 1, 1) := by decide +kernel
theorem dX5_doubles_37 : decode cX5_doubles 37 = .ok (.iload 4, 2) := by decide +kernel
theorem dX5_doubles_39 : decode cX5_doubles 39 = .ok (.iload_n 2, 1) := by decide +kernel
theorem dX5_doubles_40 : decode cX5_doubles 40 = .ok (.aload_n 0, 1) := by decide +kernel
theorem dX5_doubles_41 : decode cX5_doubles 41 = .ok (.getfield 78, 3) := by decide +kernel
theorem dX5_doubles_44 : decode cX5_doubles 44 = .ok (.invokevirtual 113, 3) := by decide +kernel
theorem dX5_doubles_47 : decode cX5_doubles 47 = .ok (.iconst 1, 1) := by decide +kernel
theorem dX5_doubles_48 : decode cX5_doubles 48 = .ok (.if_icmp .le 7, 3) := by decide +kernel
theorem dX5_doubles_51 : decode cX5_doubles 51 = .ok (.iconst 1, 1) := by decide +kernel
theorem dX5_doubles_52 : decode cX5_doubles 52 = .ok (.goto 4, 3) := by decide +kernel
theorem dX5_doubles_55 : decode cX5_doubles 55 = .ok (.iconst 0, 1) := by decide +kernel
theorem dX5_doubles_56 : decode cX5_doubles 56 = .ok (.iadd, 1) := by decide +kernel
theorem dX5_doubles_57 : decode cX5_doubles 57 = .ok (.istore_n 3, 1) := by decide +kernel
theorem dX5_doubles_58 : decode cX5_doubles 58 = .ok (.iinc 4 1, 3) := by decide +kernel
theorem dX5_doubles_61 : decode cX5_doubles 61 = .ok (.goto (-40), 3) := by decide +kernel
theorem dX5_doubles_64 : decode cX5_doubles 64 = .ok (.iload_n 3, 1) := by decide +kernel
theorem dX5_doubles_65 : decode cX5_doubles 65 = .ok (.ireturn, 1) := by decide +kernel
set_option maxRecDepth 20000 in
theorem ggX5_othersFor_X5_isCovered : GoodIn wsX5_othersFor wsX5_isCovered := goodIn_r _ [8, 9, 10, 11, 7, 12, 13, 14, 15, 16, 17, 18, 19, 20, 21, 22, 23, 24, 25, 26, 27, 28, 29, 30, 31, 32, 33, 34, 35, 36, 37, 38, 39, 40, 41, 42, 43, 44, 45, 46, 47, 48, 49, 50, 51, 52, 53, 54, 55, 56] (by decide +kernel) (by decide +kernel)
set_option maxRecDepth 20000 in
theorem gX5_othersFor_X5_isCovered : GoodIn wsX5_othersFor (wsV RX5 110 RX5 yX5_isCovered wsX5_isCovered) := goodIn_app (goodIn_of _ (by decide +kernel)) ggX5_othersFor_X5_isCovered
theorem dX5_othersFor_0 : decode cX5_othersFor 0 = .ok (.iconst 0, 1) := by decide +kernel
theorem dX5_othersFor_1 : decode cX5_othersFor 1 = .ok (.istore 4, 2) := by decide +kernel
theorem dX5_othersFor_3 : decode cX5_othersFor 3 = .ok (.iconst 0, 1) := by decide +kernel
theorem dX5_othersFor_4 : decode cX5_othersFor 4 = .ok (.istore 5, 2) := by decide +kernel
theorem dX5_othersFor_6 : decode cX5_othersFor 6 = .ok (.iload 5, 2) := by decide +kernel
theorem dX5_othersFor_8 : decode cX5_othersFor 8 = .ok (.aload_n 0, 1) := by decide +kernel
theorem dX5_othersFor_9 : decode cX5_othersFor 9 = .ok (.getfield 57, 3) := by decide +kernel
theorem dX5_othersFor_12 : decode cX5_othersFor 12 = .ok (.if_icmp .ge 46, 3) := by decide +kernel
theorem dX5_othersFor_15 : decode cX5_othersFor 15 = .ok (.iload 4, 2) := by decide +kernel
theorem dX5_othersFor_17 : decode cX5_othersFor 17 = .ok (.iload 5, 2) := by decide +kernel
theorem dX5_othersFor_19 : decode cX5_othersFor 19 = .ok (.iload_n 1, 1) := by decide +kernel
theorem dX5_othersFor_20 : decode cX5_othersFor 20 = .ok (.if_icmp .eq 28, 3) := by decide +kernel
theorem dX5_othersFor_23 : decode cX5_othersFor 23 = .ok (.aload_n 0, 1) := by decide +kernel
theorem dX5_othersFor_24 : decode cX5_othersFor 24 = .ok (.iload 5, 2) := by decide +kernel
theorem dX5_othersFor_26 : decode cX5_othersFor 26 = .ok (.iload_n 2, 1) := by decide +kernel
theorem dX5_othersFor_27 : decode cX5_othersFor 27 = .ok (.iload_n 3, 1) := by decide +kernel
theorem dX5_othersFor_28 : decode cX5_othersFor 28 = .ok (.aload_n 0, 1) := by decide +kernel
theorem dX5_othersFor_29 : decode cX5_othersFor 29 = .ok (.getfield 78, 3) := by decide +kernel
theorem dX5_othersFor_32 : decode cX5_othersFor 32 = .ok (.invokevirtual 110, 3) := by decide +kernel
theorem dX5_othersFor_35 : decode cX5_othersFor 35 = .ok (.ifCond .eq 13, 3) := by decide +kernel
theorem dX5_othersFor_38 : decode cX5_othersFor 38 = .ok (.aload_n 0, 1) := by decide +kernel
theorem dX5_othersFor_39 : decode cX5_othersFor 39 = .ok (.getfield 22, 3) := by decide +kernel
theorem dX5_othersFor_42 : decode cX5_othersFor 42 = .ok (.iload 5, 2) := by decide +kernel
theorem dX5_othersFor_44 : decode cX5_othersFor 44 = .ok (.iaload, 1) := by decide +kernel
theorem dX5_othersFor_45 : decode cX5_othersFor 45 = .ok (.goto 4, 3) := by decide +kernel
theorem dX5_othersFor_48 : decode cX5_othersFor 48 = .ok (.iconst 0, 1) := by decide +kernel
theorem dX5_othersFor_49 : decode cX5_othersFor 49 = .ok (.ior, 1) := by decide +kernel
theorem dX5_othersFor_50 : decode cX5_othersFor 50 = .ok (.istore 4, 2) := by decide +kernel
theorem dX5_othersFor_52 : decode cX5_othersFor 52 = .ok (.iinc 5 1, 3) := by decide +kernel
theorem dX5_othersFor_55 : decode cX5_othersFor 55 = .ok (.goto (-49), 3) := by decide +kernel
theorem dX5_othersFor_58 : decode cX5_othersFor 58 = .ok (.iload 4, 2) := by decide +kernel
theorem dX5_othersFor_60 : decode cX5_othersFor 60 = .ok (.ireturn, 1) := by decide +kernel
set_option maxRecDepth 20000 in
theorem ggX5_isNeedless_X5_isPackage : GoodIn wsX5_isNeedless wsX5_isPackage := goodIn_r _ [9, 10, 54, 55, 56, 57, 58, 59, 60, 61, 62, 63, 64, 65, 66, 67, 68, 69, 70, 71] (by decide +kernel) (by decide +kernel)
set_option maxRecDepth 20000 in
theorem gX5_isNeedless_X5_isPackage : GoodIn wsX5_isNeedless (wsV RX5 81 RX5 yX5_isPackage wsX5_isPackage) := goodIn_app (goodIn_of _ (by decide +kernel)) ggX5_isNeedless_X5_isPackage
set_option maxRecDepth 20000 in
theorem ggX5_isNeedless_X5_holds : GoodIn wsX5_isNeedless wsX5_holds := goodIn_r _ [14, 15, 54, 55, 56, 57, 58, 59, 60, 61, 62, 63, 64, 65, 66, 67, 68, 69, 70, 71] (by decide +kernel) (by decide +kernel)
set_option maxRecDepth 20000 in
theorem gX5_isNeedless_X5_holds : GoodIn wsX5_isNeedless (wsV RX5 64 RX5 yX5_holds wsX5_holds) := goodIn_app (goodIn_of _ (by decide +kernel)) ggX5_isNeedless_X5_holds
set_option maxRecDepth 20000 in
theorem ggX5_isNeedless_X5_has : GoodIn wsX5_isNeedless wsX5_has := goodIn_r _ [19, 20, 21, 22, 23, 24, 25, 26, 8, 27, 28, 29, 30, 31, 32, 33, 34, 35, 36, 37, 38, 39, 40, 54, 55, 56, 57, 58, 59, 60, 61, 62, 63, 64, 65, 66, 67, 68, 69, 70, 71] (by decide +kernel) (by decide +kernel)
set_option maxRecDepth 20000 in
theorem gX5_isNeedless_X5_has : GoodIn wsX5_isNeedless (wsV RX5 96 RX5 yX5_has wsX5_has) := goodIn_app (goodIn_of _ (by decide +kernel)) ggX5_isNeedless_X5_has
set_option maxRecDepth 20000 in
theorem ggX5_isNeedless_X5_isKept : GoodIn wsX5_isNeedless wsX5_isKept := goodIn_r _ [44, 45, 16, 17, 18, 8, 19, 20, 21, 22, 23, 24, 25, 26, 27, 28, 29, 30, 31, 32, 33, 34, 35, 36, 37, 38, 39, 40, 54, 55, 56, 57, 58, 59, 60, 61, 62, 63, 64, 65, 66, 67, 68, 69, 70, 71] (by decide +kernel) (by decide +kernel)
set_option maxRecDepth 20000 in
theorem gX5_isNeedless_X5_isKept : GoodIn wsX5_isNeedless (wsV RX5 100 RX5 yX5_isKept wsX5_isKept) := goodIn_app (goodIn_of _ (by decide +kernel)) ggX5_isNeedless_X5_isKept
set_option maxRecDepth 20000 in
theorem ggX5_isNeedless_X5_othersFor : GoodIn wsX5_isNeedless wsX5_othersFor := goodIn_r _ [49, 10, 3, 4, 50, 51, 52, 8, 53, 16, 17, 18, 19, 20, 21, 22, 23, 24, 25, 26, 27, 28, 29, 30, 31, 32, 33, 34, 35, 36, 37, 38, 39, 40, 41, 42, 43, 44, 45, 54, 55, 56, 57, 58, 59, 60, 61, 62, 63, 64, 65, 66, 67, 68, 69, 70, 71] (by decide +kernel) (by decide +kernel)
set_option maxRecDepth 20000 in
theorem gX5_isNeedless_X5_othersFor : GoodIn wsX5_isNeedless (wsV RX5 123 RX5 yX5_othersFor wsX5_othersFor) := goodIn_app (goodIn_of _ (by decide +kernel)) ggX5_isNeedless_X5_othersFor
theorem dX5_isNeedless_0 : decode cX5_isNeedless 0 = .ok (.aload_n 0, 1) := by decide +kernel
theorem dX5_isNeedless_1 : decode cX5_isNeedless 1 = .ok (.aload_n 0, 1) := by decide +kernel
theorem dX5_isNeedless_2 : decode cX5_isNeedless 2 = .ok (.iload_n 1, 1) := by decide +kernel
theorem dX5_isNeedless_3 : decode cX5_isNeedless 3 = .ok (.invokevirtual 81, 3) := by decide +kernel
theorem dX5_isNeedless_6 : decode cX5_isNeedless 6 = .ok (.ifCond .eq 7, 3) := by decide +kernel
theorem dX5_isNeedless_9 : decode cX5_isNeedless 9 = .ok (.iconst 0, 1) := by decide +kernel
theorem dX5_isNeedless_10 : decode cX5_isNeedless 10 = .ok (.goto 4, 3) := by decide +kernel
theorem dX5_isNeedless_13 : decode cX5_isNeedless 13 = .ok (.iconst 1, 1) := by decide +kernel
theorem dX5_isNeedless_14 : decode cX5_isNeedless 14 = .ok (.invokevirtual 64, 3) := by decide +kernel
theorem dX5_isNeedless_17 : decode cX5_isNeedless 17 = .ok (.ifCond .ne 5, 3) := by decide +kernel
theorem dX5_isNeedless_20 : decode cX5_isNeedless 20 = .ok (.iconst 0, 1) := by decide +kernel
theorem dX5_isNeedless_21 : decode cX5_isNeedless 21 = .ok (.ireturn, 1) := by decide +kernel
theorem dX5_isNeedless_22 : decode cX5_isNeedless 22 = .ok (.iconst 1, 1) := by decide +kernel
theorem dX5_isNeedless_23 : decode cX5_isNeedless 23 = .ok (.istore_n 2, 1) := by decide +kernel
theorem dX5_isNeedless_24 : decode cX5_isNeedless 24 = .ok (.iconst 0, 1) := by decide +kernel
theorem dX5_isNeedless_25 : decode cX5_isNeedless 25 = .ok (.istore_n 3, 1) := by decide +kernel
theorem dX5_isNeedless_26 : decode cX5_isNeedless 26 = .ok (.iload_n 3, 1) := by decide +kernel
theorem dX5_isNeedless_27 : decode cX5_isNeedless 27 = .ok (.aload_n 0, 1) := by decide +kernel
theorem dX5_isNeedless_28 : decode cX5_isNeedless 28 = .ok (.getfield 54, 3) := by decide +kernel
theorem dX5_isNeedless_31 : decode cX5_isNeedless 31 = .ok (.if_icmp .ge 116, 3) := by decide +kernel
theorem dX5_isNeedless_34 : decode cX5_isNeedless 34 = .ok (.iload_n 2, 1) := by decide +kernel
theorem dX5_isNeedless_35 : decode cX5_isNeedless 35 = .ok (.ifCond .eq 112, 3) := by decide +kernel
theorem dX5_isNeedless_38 : decode cX5_isNeedless 38 = .ok (.aload_n 0, 1) := by decide +kernel
theorem dX5_isNeedless_39 : decode cX5_isNeedless 39 = .ok (.getfield 7, 3) := by decide +kernel
theorem dX5_isNeedless_42 : decode cX5_isNeedless 42 = .ok (.iload_n 3, 1) := by decide +kernel
theorem dX5_isNeedless_43 : decode cX5_isNeedless 43 = .ok (.iaload, 1) := by decide +kernel
theorem dX5_isNeedless_44 : decode cX5_isNeedless 44 = .ok (.istore 4, 2) := by decide +kernel
theorem dX5_isNeedless_46 : decode cX5_isNeedless 46 = .ok (.iload 4, 2) := by decide +kernel
theorem dX5_isNeedless_48 : decode cX5_isNeedless 48 = .ok (.aload_n 0, 1) := by decide +kernel
theorem dX5_isNeedless_49 : decode cX5_isNeedless 49 = .ok (.getfield 78, 3) := by decide +kernel
theorem dX5_isNeedless_52 : decode cX5_isNeedless 52 = .ok (.sipush 360, 3) := by decide +kernel
theorem dX5_isNeedless_55 : decode cX5_isNeedless 55 = .ok (.idiv, 1) := by decide +kernel
theorem dX5_isNeedless_56 : decode cX5_isNeedless 56 = .ok (.if_icmp .gt 85, 3) := by decide +kernel
theorem dX5_isNeedless_59 : decode cX5_isNeedless 59 = .ok (.iload_n 2, 1) := by decide +kernel
theorem dX5_isNeedless_60 : decode cX5_isNeedless 60 = .ok (.ifCond .eq 81, 3) := by decide +kernel
theorem dX5_isNeedless_63 : decode cX5_isNeedless 63 = .ok (.aload_n 0, 1) := by decide +kernel
theorem dX5_isNeedless_64 : decode cX5_isNeedless 64 = .ok (.iload_n 1, 1) := by decide +kernel
theorem dX5_isNeedless_65 : decode cX5_isNeedless 65 = .ok (.iload_n 3, 1) := by decide +kernel
theorem dX5_isNeedless_66 : decode cX5_isNeedless 66 = .ok (.iload 4, 2) := by decide +kernel
theorem dX5_isNeedless_68 : decode cX5_isNeedless 68 = .ok (.aload_n 0, 1) := by decide +kernel
theorem dX5_isNeedless_69 : decode cX5_isNeedless 69 = .ok (.getfield 78, 3) := by decide +kernel
theorem dX5_isNeedless_72 : decode cX5_isNeedless 72 = .ok (.aload_n 0, 1) := by decide +kernel
theorem dX5_isNeedless_73 : decode cX5_isNeedless 73 = .ok (.getfield 78, 3) := by decide +kernel
theorem dX5_isNeedless_76 : decode cX5_isNeedless 76 = .ok (.invokevirtual 96, 3) := by decide +kernel
theorem dX5_isNeedless_79 : decode cX5_isNeedless 79 = .ok (.ifCond .eq 22, 3) := by decide +kernel
theorem dX5_isNeedless_82 : decode cX5_isNeedless 82 = .ok (.aload_n 0, 1) := by decide +kernel
theorem dX5_isNeedless_83 : decode cX5_isNeedless 83 = .ok (.iload_n 1, 1) := by decide +kernel
theorem dX5_isNeedless_84 : decode cX5_isNeedless 84 = .ok (.iload_n 3, 1) := by decide +kernel
theorem dX5_isNeedless_85 : decode cX5_isNeedless 85 = .ok (.iload 4, 2) := by decide +kernel
theorem dX5_isNeedless_87 : decode cX5_isNeedless 87 = .ok (.aload_n 0, 1) := by decide +kernel
theorem dX5_isNeedless_88 : decode cX5_isNeedless 88 = .ok (.getfield 78, 3) := by decide +kernel
theorem dX5_isNeedless_91 : decode cX5_isNeedless 91 = .ok (.invokevirtual 100, 3) := by decide +kernel
theorem dX5_isNeedless_94 : decode cX5_isNeedless 94 = .ok (.ifCond .ne 7, 3) := by decide +kernel
theorem dX5_isNeedless_97 : decode cX5_isNeedless 97 = .ok (.iconst 1, 1) := by decide +kernel
theorem dX5_isNeedless_98 : decode cX5_isNeedless 98 = .ok (.goto 4, 3) := by decide +kernel
theorem dX5_isNeedless_101 : decode cX5_isNeedless 101 = .ok (.iconst 0, 1) := by decide +kernel
theorem dX5_isNeedless_102 : decode cX5_isNeedless 102 = .ok (.istore 5, 2) := by decide +kernel
theorem dX5_isNeedless_104 : decode cX5_isNeedless 104 = .ok (.iload 5, 2) := by decide +kernel
theorem dX5_isNeedless_106 : decode cX5_isNeedless 106 = .ok (.ifCond .eq 23, 3) := by decide +kernel
theorem dX5_isNeedless_109 : decode cX5_isNeedless 109 = .ok (.aload_n 0, 1) := by decide +kernel
theorem dX5_isNeedless_110 : decode cX5_isNeedless 110 = .ok (.getfield 22, 3) := by decide +kernel
theorem dX5_isNeedless_113 : decode cX5_isNeedless 113 = .ok (.iload_n 1, 1) := by decide +kernel
theorem dX5_isNeedless_114 : decode cX5_isNeedless 114 = .ok (.iaload, 1) := by decide +kernel
theorem dX5_isNeedless_115 : decode cX5_isNeedless 115 = .ok (.aload_n 0, 1) := by decide +kernel
theorem dX5_isNeedless_116 : decode cX5_isNeedless 116 = .ok (.iload_n 1, 1) := by decide +kernel
theorem dX5_isNeedless_117 : decode cX5_isNeedless 117 = .ok (.iload_n 3, 1) := by decide +kernel
theorem dX5_isNeedless_118 : decode cX5_isNeedless 118 = .ok (.iload 4, 2) := by decide +kernel
theorem dX5_isNeedless_120 : decode cX5_isNeedless 120 = .ok (.invokevirtual 123, 3) := by decide +kernel
theorem dX5_isNeedless_123 : decode cX5_isNeedless 123 = .ok (.iconst (-1), 1) := by decide +kernel
theorem dX5_isNeedless_124 : decode cX5_isNeedless 124 = .ok (.ixor, 1) := by decide +kernel
theorem dX5_isNeedless_125 : decode cX5_isNeedless 125 = .ok (.iand, 1) := by decide +kernel
theorem dX5_isNeedless_126 : decode cX5_isNeedless 126 = .ok (.ifCond .ne 7, 3) := by decide +kernel
theorem dX5_isNeedless_129 : decode cX5_isNeedless 129 = .ok (.iconst 1, 1) := by decide +kernel
theorem dX5_isNeedless_130 : decode cX5_isNeedless 130 = .ok (.goto 4, 3) := by decide +kernel
theorem dX5_isNeedless_133 : decode cX5_isNeedless 133 = .ok (.iconst 0, 1) := by decide +kernel
theorem dX5_isNeedless_134 : decode cX5_isNeedless 134 = .ok (.istore_n 2, 1) := by decide +kernel
theorem dX5_isNeedless_135 : decode cX5_isNeedless 135 = .ok (.iinc 4 1, 3) := by decide +kernel
theorem dX5_isNeedless_138 : decode cX5_isNeedless 138 = .ok (.goto (-92), 3) := by decide +kernel
theorem dX5_isNeedless_141 : decode cX5_isNeedless 141 = .ok (.iinc 3 1, 3) := by decide +kernel
theorem dX5_isNeedless_144 : decode cX5_isNeedless 144 = .ok (.goto (-118), 3) := by decide +kernel
theorem dX5_isNeedless_147 : decode cX5_isNeedless 147 = .ok (.iload_n 2, 1) := by decide +kernel
theorem dX5_isNeedless_148 : decode cX5_isNeedless 148 = .ok (.ireturn, 1) := by decide +kernel
theorem dJ6_bitCount_0f7a4_0 : decode cJ6_bitCount_0f7a4 0 = .ok (.iload_n 0, 1) := by decide +kernel
theorem dJ6_bitCount_0f7a4_1 : decode cJ6_bitCount_0f7a4 1 = .ok (.iload_n 0, 1) := by decide +kernel
theorem dJ6_bitCount_0f7a4_2 : decode cJ6_bitCount_0f7a4 2 = .ok (.iconst 1, 1) := by decide +kernel
theorem dJ6_bitCount_0f7a4_3 : decode cJ6_bitCount_0f7a4 3 = .ok (.iushr, 1) := by decide +kernel
theorem dJ6_bitCount_0f7a4_4 : decode cJ6_bitCount_0f7a4 4 = .ok (.ldc_w 265, 3) := by decide +kernel
theorem dJ6_bitCount_0f7a4_7 : decode cJ6_bitCount_0f7a4 7 = .ok (.iand, 1) := by decide +kernel
theorem dJ6_bitCount_0f7a4_8 : decode cJ6_bitCount_0f7a4 8 = .ok (.isub, 1) := by decide +kernel
theorem dJ6_bitCount_0f7a4_9 : decode cJ6_bitCount_0f7a4 9 = .ok (.istore_n 0, 1) := by decide +kernel
theorem dJ6_bitCount_0f7a4_10 : decode cJ6_bitCount_0f7a4 10 = .ok (.iload_n 0, 1) := by decide +kernel
theorem dJ6_bitCount_0f7a4_11 : decode cJ6_bitCount_0f7a4 11 = .ok (.ldc_w 266, 3) := by decide +kernel
theorem dJ6_bitCount_0f7a4_14 : decode cJ6_bitCount_0f7a4 14 = .ok (.iand, 1) := by decide +kernel
theorem dJ6_bitCount_0f7a4_15 : decode cJ6_bitCount_0f7a4 15 = .ok (.iload_n 0, 1) := by decide +kernel
theorem dJ6_bitCount_0f7a4_16 : decode cJ6_bitCount_0f7a4 16 = .ok (.iconst 2, 1) := by decide +kernel
theorem dJ6_bitCount_0f7a4_17 : decode cJ6_bitCount_0f7a4 17 = .ok (.iushr, 1) := by decide +kernel
theorem dJ6_bitCount_0f7a4_18 : decode cJ6_bitCount_0f7a4 18 = .ok (.ldc_w 266, 3) := by decide +kernel
theorem dJ6_bitCount_0f7a4_21 : decode cJ6_bitCount_0f7a4 21 = .ok (.iand, 1) := by decide +kernel
theorem dJ6_bitCount_0f7a4_22 : decode cJ6_bitCount_0f7a4 22 = .ok (.iadd, 1) := by decide +kernel
theorem dJ6_bitCount_0f7a4_23 : decode cJ6_bitCount_0f7a4 23 = .ok (.istore_n 0, 1) := by decide +kernel
theorem dJ6_bitCount_0f7a4_24 : decode cJ6_bitCount_0f7a4 24 = .ok (.iload_n 0, 1) := by decide +kernel
theorem dJ6_bitCount_0f7a4_25 : decode cJ6_bitCount_0f7a4 25 = .ok (.iload_n 0, 1) := by decide +kernel
theorem dJ6_bitCount_0f7a4_26 : decode cJ6_bitCount_0f7a4 26 = .ok (.iconst 4, 1) := by decide +kernel
theorem dJ6_bitCount_0f7a4_27 : decode cJ6_bitCount_0f7a4 27 = .ok (.iushr, 1) := by decide +kernel
theorem dJ6_bitCount_0f7a4_28 : decode cJ6_bitCount_0f7a4 28 = .ok (.iadd, 1) := by decide +kernel
theorem dJ6_bitCount_0f7a4_29 : decode cJ6_bitCount_0f7a4 29 = .ok (.ldc_w 267, 3) := by decide +kernel
theorem dJ6_bitCount_0f7a4_32 : decode cJ6_bitCount_0f7a4 32 = .ok (.iand, 1) := by decide +kernel
theorem dJ6_bitCount_0f7a4_33 : decode cJ6_bitCount_0f7a4 33 = .ok (.istore_n 0, 1) := by decide +kernel
theorem dJ6_bitCount_0f7a4_34 : decode cJ6_bitCount_0f7a4 34 = .ok (.iload_n 0, 1) := by decide +kernel
theorem dJ6_bitCount_0f7a4_35 : decode cJ6_bitCount_0f7a4 35 = .ok (.iload_n 0, 1) := by decide +kernel
theorem dJ6_bitCount_0f7a4_36 : decode cJ6_bitCount_0f7a4 36 = .ok (.bipush 8, 2) := by decide +kernel
theorem dJ6_bitCount_0f7a4_38 : decode cJ6_bitCount_0f7a4 38 = .ok (.iushr, 1) := by decide +kernel
theorem dJ6_bitCount_0f7a4_39 : decode cJ6_bitCount_0f7a4 39 = .ok (.iadd, 1) := by decide +kernel
theorem dJ6_bitCount_0f7a4_40 : decode cJ6_bitCount_0f7a4 40 = .ok (.istore_n 0, 1) := by decide +kernel
theorem dJ6_bitCount_0f7a4_41 : decode cJ6_bitCount_0f7a4 41 = .ok (.iload_n 0, 1) := by decide +kernel
theorem dJ6_bitCount_0f7a4_42 : decode cJ6_bitCount_0f7a4 42 = .ok (.iload_n 0, 1) := by decide +kernel
theorem dJ6_bitCount_0f7a4_43 : decode cJ6_bitCount_0f7a4 43 = .ok (.bipush 16, 2) := by decide +kernel
theorem dJ6_bitCount_0f7a4_45 : decode cJ6_bitCount_0f7a4 45 = .ok (.iushr, 1) := by decide +kernel
theorem dJ6_bitCount_0f7a4_46 : decode cJ6_bitCount_0f7a4 46 = .ok (.iadd, 1) := by decide +kernel
theorem dJ6_bitCount_0f7a4_47 : decode cJ6_bitCount_0f7a4 47 = .ok (.istore_n 0, 1) := by decide +kernel
theorem dJ6_bitCount_0f7a4_48 : decode cJ6_bitCount_0f7a4 48 = .ok (.iload_n 0, 1) := by decide +kernel
theorem dJ6_bitCount_0f7a4_49 : decode cJ6_bitCount_0f7a4 49 = .ok (.bipush 63, 2) := by decide +kernel
theorem dJ6_bitCount_0f7a4_51 : decode cJ6_bitCount_0f7a4 51 = .ok (.iand, 1) := by decide +kernel
theorem dJ6_bitCount_0f7a4_52 : decode cJ6_bitCount_0f7a4 52 = .ok (.ireturn, 1) := by decide +kernel
theorem dJ13_bitCount_95d88_0 : decode cJ13_bitCount_95d88 0 = .ok (.lload_n 0, 1) := by decide +kernel
theorem dJ13_bitCount_95d88_1 : decode cJ13_bitCount_95d88 1 = .ok (.lload_n 0, 1) := by decide +kernel
theorem dJ13_bitCount_95d88_2 : decode cJ13_bitCount_95d88 2 = .ok (.iconst 1, 1) := by decide +kernel
theorem dJ13_bitCount_95d88_3 : decode cJ13_bitCount_95d88 3 = .ok (.lushr, 1) := by decide +kernel
theorem dJ13_bitCount_95d88_4 : decode cJ13_bitCount_95d88 4 = .ok (.ldc2_w 314, 3) := by decide +kernel
theorem dJ13_bitCount_95d88_7 : decode cJ13_bitCount_95d88 7 = .ok (.land, 1) := by decide +kernel
theorem dJ13_bitCount_95d88_8 : decode cJ13_bitCount_95d88 8 = .ok (.lsub, 1) := by decide +kernel
theorem dJ13_bitCount_95d88_9 : decode cJ13_bitCount_95d88 9 = .ok (.lstore_n 0, 1) := by decide +kernel
theorem dJ13_bitCount_95d88_10 : decode cJ13_bitCount_95d88 10 = .ok (.lload_n 0, 1) := by decide +kernel
theorem dJ13_bitCount_95d88_11 : decode cJ13_bitCount_95d88 11 = .ok (.ldc2_w 316, 3) := by decide +kernel
theorem dJ13_bitCount_95d88_14 : decode cJ13_bitCount_95d88 14 = .ok (.land, 1) := by decide +kernel
theorem dJ13_bitCount_95d88_15 : decode cJ13_bitCount_95d88 15 = .ok (.lload_n 0, 1) := by decide +kernel
theorem dJ13_bitCount_95d88_16 : decode cJ13_bitCount_95d88 16 = .ok (.iconst 2, 1) := by decide +kernel
theorem dJ13_bitCount_95d88_17 : decode cJ13_bitCount_95d88 17 = .ok (.lushr, 1) := by decide +kernel
theorem dJ13_bitCount_95d88_18 : decode cJ13_bitCount_95d88 18 = .ok (.ldc2_w 316, 3) := by decide +kernel
theorem dJ13_bitCount_95d88_21 : decode cJ13_bitCount_95d88 21 = .ok (.land, 1) := by decide +kernel
theorem dJ13_bitCount_95d88_22 : decode cJ13_bitCount_95d88 22 = .ok (.ladd, 1) := by decide +kernel
theorem dJ13_bitCount_95d88_23 : decode cJ13_bitCount_95d88 23 = .ok (.lstore_n 0, 1) := by decide +kernel
theorem dJ13_bitCount_95d88_24 : decode cJ13_bitCount_95d88 24 = .ok (.lload_n 0, 1) := by decide +kernel
theorem dJ13_bitCount_95d88_25 : decode cJ13_bitCount_95d88 25 = .ok (.lload_n 0, 1) := by decide +kernel
theorem dJ13_bitCount_95d88_26 : decode cJ13_bitCount_95d88 26 = .ok (.iconst 4, 1) := by decide +kernel
theorem dJ13_bitCount_95d88_27 : decode cJ13_bitCount_95d88 27 = .ok (.lushr, 1) := by decide +kernel
theorem dJ13_bitCount_95d88_28 : decode cJ13_bitCount_95d88 28 = .ok (.ladd, 1) := by decide +kernel
theorem dJ13_bitCount_95d88_29 : decode cJ13_bitCount_95d88 29 = .ok (.ldc2_w 318, 3) := by decide +kernel
theorem dJ13_bitCount_95d88_32 : decode cJ13_bitCount_95d88 32 = .ok (.land, 1) := by decide +kernel
theorem dJ13_bitCount_95d88_33 : decode cJ13_bitCount_95d88 33 = .ok (.lstore_n 0, 1) := by decide +kernel
theorem dJ13_bitCount_95d88_34 : decode cJ13_bitCount_95d88 34 = .ok (.lload_n 0, 1) := by decide +kernel
theorem dJ13_bitCount_95d88_35 : decode cJ13_bitCount_95d88 35 = .ok (.lload_n 0, 1) := by decide +kernel
theorem dJ13_bitCount_95d88_36 : decode cJ13_bitCount_95d88 36 = .ok (.bipush 8, 2) := by decide +kernel
theorem dJ13_bitCount_95d88_38 : decode cJ13_bitCount_95d88 38 = .ok (.lushr, 1) := by decide +kernel
theorem dJ13_bitCount_95d88_39 : decode cJ13_bitCount_95d88 39 = .ok (.ladd, 1) := by decide +kernel
theorem dJ13_bitCount_95d88_40 : decode cJ13_bitCount_95d88 40 = .ok (.lstore_n 0, 1) := by decide +kernel
theorem dJ13_bitCount_95d88_41 : decode cJ13_bitCount_95d88 41 = .ok (.lload_n 0, 1) := by decide +kernel
theorem dJ13_bitCount_95d88_42 : decode cJ13_bitCount_95d88 42 = .ok (.lload_n 0, 1) := by decide +kernel
theorem dJ13_bitCount_95d88_43 : decode cJ13_bitCount_95d88 43 = .ok (.bipush 16, 2) := by decide +kernel
theorem dJ13_bitCount_95d88_45 : decode cJ13_bitCount_95d88 45 = .ok (.lushr, 1) := by decide +kernel
theorem dJ13_bitCount_95d88_46 : decode cJ13_bitCount_95d88 46 = .ok (.ladd, 1) := by decide +kernel
theorem dJ13_bitCount_95d88_47 : decode cJ13_bitCount_95d88 47 = .ok (.lstore_n 0, 1) := by decide +kernel
theorem dJ13_bitCount_95d88_48 : decode cJ13_bitCount_95d88 48 = .ok (.lload_n 0, 1) := by decide +kernel
theorem dJ13_bitCount_95d88_49 : decode cJ13_bitCount_95d88 49 = .ok (.lload_n 0, 1) := by decide +kernel
theorem dJ13_bitCount_95d88_50 : decode cJ13_bitCount_95d88 50 = .ok (.bipush 32, 2) := by decide +kernel
theorem dJ13_bitCount_95d88_52 : decode cJ13_bitCount_95d88 52 = .ok (.lushr, 1) := by decide +kernel
theorem dJ13_bitCount_95d88_53 : decode cJ13_bitCount_95d88 53 = .ok (.ladd, 1) := by decide +kernel
theorem dJ13_bitCount_95d88_54 : decode cJ13_bitCount_95d88 54 = .ok (.lstore_n 0, 1) := by decide +kernel
theorem dJ13_bitCount_95d88_55 : decode cJ13_bitCount_95d88 55 = .ok (.lload_n 0, 1) := by decide +kernel
theorem dJ13_bitCount_95d88_56 : decode cJ13_bitCount_95d88 56 = .ok (.l2i, 1) := by decide +kernel
theorem dJ13_bitCount_95d88_57 : decode cJ13_bitCount_95d88 57 = .ok (.bipush 127, 2) := by decide +kernel
theorem dJ13_bitCount_95d88_59 : decode cJ13_bitCount_95d88 59 = .ok (.iand, 1) := by decide +kernel
theorem dJ13_bitCount_95d88_60 : decode cJ13_bitCount_95d88 60 = .ok (.ireturn, 1) := by decide +kernel
theorem dJ9_min_7cf53_0 : decode cJ9_min_7cf53 0 = .ok (.iload_n 0, 1) := by decide +kernel
theorem dJ9_min_7cf53_1 : decode cJ9_min_7cf53 1 = .ok (.iload_n 1, 1) := by decide +kernel
theorem dJ9_min_7cf53_2 : decode cJ9_min_7cf53 2 = .ok (.if_icmp .gt 7, 3) := by decide +kernel
theorem dJ9_min_7cf53_5 : decode cJ9_min_7cf53 5 = .ok (.iload_n 0, 1) := by decide +kernel
theorem dJ9_min_7cf53_6 : decode cJ9_min_7cf53 6 = .ok (.goto 4, 3) := by decide +kernel
theorem dJ9_min_7cf53_9 : decode cJ9_min_7cf53 9 = .ok (.iload_n 1, 1) := by decide +kernel
theorem dJ9_min_7cf53_10 : decode cJ9_min_7cf53 10 = .ok (.ireturn, 1) := by decide +kernel
set_option maxRecDepth 20000 in
theorem ggL_addTitle_X4_addTitle : GoodIn wsL_addTitle wsX4_addTitle := goodIn_ca (goodIn_ca (goodIn_r _ [7, 8, 9, 10, 11, 12, 13, 14, 15, 16, 6, 17, 18, 19, 20, 21, 22, 23, 24, 25, 26, 27, 28, 29, 30, 31, 32, 33, 34, 35] (by decide +kernel) (by decide +kernel)) (goodIn_sub (fun _ h => List.mem_cons_of_mem _ (List.mem_append_left _ (List.mem_append_right _ h))) (by decide +kernel))) (goodIn_sub (fun _ h => List.mem_cons_of_mem _ (List.mem_append_right _ h)) (by decide +kernel))
set_option maxRecDepth 20000 in
theorem gL_addTitle_X4_addTitle : GoodIn wsL_addTitle (wsV RL 7 RX4 yX4_addTitle wsX4_addTitle) := goodIn_app (goodIn_of _ (by decide +kernel)) ggL_addTitle_X4_addTitle
theorem dL_addTitle_0 : decode cL_addTitle 0 = .ok (.aload_n 3, 1) := by decide +kernel
theorem dL_addTitle_1 : decode cL_addTitle 1 = .ok (.iconst 0, 1) := by decide +kernel
theorem dL_addTitle_2 : decode cL_addTitle 2 = .ok (.aload_n 0, 1) := by decide +kernel
theorem dL_addTitle_3 : decode cL_addTitle 3 = .ok (.iload_n 1, 1) := by decide +kernel
theorem dL_addTitle_4 : decode cL_addTitle 4 = .ok (.iload_n 2, 1) := by decide +kernel
theorem dL_addTitle_5 : decode cL_addTitle 5 = .ok (.invokevirtual 7, 3) := by decide +kernel
theorem dL_addTitle_8 : decode cL_addTitle 8 = .ok (.i2l, 1) := by decide +kernel
theorem dL_addTitle_9 : decode cL_addTitle 9 = .ok (.lastore, 1) := by decide +kernel
theorem dL_addTitle_10 : decode cL_addTitle 10 = .ok (.goto 11, 3) := by decide +kernel
theorem dL_addTitle_13 : decode cL_addTitle 13 = .ok (.astore 4, 2) := by decide +kernel
theorem dL_addTitle_15 : decode cL_addTitle 15 = .ok (.iconst 1, 1) := by decide +kernel
theorem dL_addTitle_16 : decode cL_addTitle 16 = .ok (.ireturn, 1) := by decide +kernel
theorem dL_addTitle_17 : decode cL_addTitle 17 = .ok (.astore 4, 2) := by decide +kernel
theorem dL_addTitle_19 : decode cL_addTitle 19 = .ok (.iconst 2, 1) := by decide +kernel
theorem dL_addTitle_20 : decode cL_addTitle 20 = .ok (.ireturn, 1) := by decide +kernel
theorem dL_addTitle_21 : decode cL_addTitle 21 = .ok (.iconst 0, 1) := by decide +kernel
theorem dL_addTitle_22 : decode cL_addTitle 22 = .ok (.ireturn, 1) := by decide +kernel
set_option maxRecDepth 20000 in
theorem ggL_yearOf_X4_yearOf : GoodIn wsL_yearOf wsX4_yearOf := goodIn_ca (goodIn_ca (goodIn_r _ [7, 8, 9, 10, 11, 6, 12, 13, 14, 15, 16, 17, 18, 19, 20, 21, 22, 23, 24, 25, 26, 27, 28, 29, 30, 31, 32, 33, 34, 35, 36] (by decide +kernel) (by decide +kernel)) (goodIn_sub (fun _ h => List.mem_cons_of_mem _ (List.mem_append_left _ (List.mem_append_right _ h))) (by decide +kernel))) (goodIn_sub (fun _ h => List.mem_cons_of_mem _ (List.mem_append_right _ h)) (by decide +kernel))
set_option maxRecDepth 20000 in
theorem gL_yearOf_X4_yearOf : GoodIn wsL_yearOf (wsV RL 17 RX4 yX4_yearOf wsX4_yearOf) := goodIn_app (goodIn_of _ (by decide +kernel)) ggL_yearOf_X4_yearOf
theorem dL_yearOf_0 : decode cL_yearOf 0 = .ok (.aload_n 3, 1) := by decide +kernel
theorem dL_yearOf_1 : decode cL_yearOf 1 = .ok (.iconst 0, 1) := by decide +kernel
theorem dL_yearOf_2 : decode cL_yearOf 2 = .ok (.aload_n 0, 1) := by decide +kernel
theorem dL_yearOf_3 : decode cL_yearOf 3 = .ok (.iload_n 1, 1) := by decide +kernel
theorem dL_yearOf_4 : decode cL_yearOf 4 = .ok (.iload_n 2, 1) := by decide +kernel
theorem dL_yearOf_5 : decode cL_yearOf 5 = .ok (.invokevirtual 17, 3) := by decide +kernel
theorem dL_yearOf_8 : decode cL_yearOf 8 = .ok (.i2l, 1) := by decide +kernel
theorem dL_yearOf_9 : decode cL_yearOf 9 = .ok (.lastore, 1) := by decide +kernel
theorem dL_yearOf_10 : decode cL_yearOf 10 = .ok (.goto 11, 3) := by decide +kernel
theorem dL_yearOf_13 : decode cL_yearOf 13 = .ok (.astore 4, 2) := by decide +kernel
theorem dL_yearOf_15 : decode cL_yearOf 15 = .ok (.iconst 1, 1) := by decide +kernel
theorem dL_yearOf_16 : decode cL_yearOf 16 = .ok (.ireturn, 1) := by decide +kernel
theorem dL_yearOf_17 : decode cL_yearOf 17 = .ok (.astore 4, 2) := by decide +kernel
theorem dL_yearOf_19 : decode cL_yearOf 19 = .ok (.iconst 2, 1) := by decide +kernel
theorem dL_yearOf_20 : decode cL_yearOf 20 = .ok (.ireturn, 1) := by decide +kernel
theorem dL_yearOf_21 : decode cL_yearOf 21 = .ok (.iconst 0, 1) := by decide +kernel
theorem dL_yearOf_22 : decode cL_yearOf 22 = .ok (.ireturn, 1) := by decide +kernel
set_option maxRecDepth 20000 in
theorem ggL_volumeOf_X4_volumeOf : GoodIn wsL_volumeOf wsX4_volumeOf := goodIn_ca (goodIn_ca (goodIn_r _ [7, 8, 9, 10, 11, 6, 12, 13, 14, 15, 16, 17, 18, 19, 20, 21, 22, 23, 24, 25, 26, 27, 28, 29, 30, 31, 32, 33, 34, 35, 36] (by decide +kernel) (by decide +kernel)) (goodIn_sub (fun _ h => List.mem_cons_of_mem _ (List.mem_append_left _ (List.mem_append_right _ h))) (by decide +kernel))) (goodIn_sub (fun _ h => List.mem_cons_of_mem _ (List.mem_append_right _ h)) (by decide +kernel))
