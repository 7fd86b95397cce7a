theorem dX2_doSane_17 : decode cX2_doSane 17 = .ok (.getfield 21, 3) := by decide +kernel
theorem dX2_doSane_20 : decode cX2_doSane 20 = .ok (.iload_n 1, 1) := by decide +kernel
theorem dX2_doSane_21 : decode cX2_doSane 21 = .ok (.aaload, 1) := by decide +kernel
theorem dX2_doSane_22 : decode cX2_doSane 22 = .ok (.iconst 0, 1) := by decide +kernel
theorem dX2_doSane_23 : decode cX2_doSane 23 = .ok (.aload_n 0, 1) := by decide +kernel
theorem dX2_doSane_24 : decode cX2_doSane 24 = .ok (.getfield 9, 3) := by decide +kernel
theorem dX2_doSane_27 : decode cX2_doSane 27 = .ok (.getfield 67, 3) := by decide +kernel
theorem dX2_doSane_30 : decode cX2_doSane 30 = .ok (.iload_n 1, 1) := by decide +kernel
theorem dX2_doSane_31 : decode cX2_doSane 31 = .ok (.aaload, 1) := by decide +kernel
theorem dX2_doSane_32 : decode cX2_doSane 32 = .ok (.iconst 0, 1) := by decide +kernel
theorem dX2_doSane_33 : decode cX2_doSane 33 = .ok (.bipush 17, 2) := by decide +kernel
theorem dX2_doSane_35 : decode cX2_doSane 35 = .ok (.invokestatic 70, 3) := by decide +kernel
theorem dX2_doSane_38 : decode cX2_doSane 38 = .ok (.return_, 1) := by decide +kernel
set_option maxRecDepth 20000 in
theorem ggX2_doTree_X2_parentToBe : GoodIn wsX2_doTree wsX2_parentToBe := goodIn_r _ [8, 3, 9, 10, 11, 12, 13, 14, 15, 23, 24, 25, 26, 27, 28, 29, 30, 31, 38, 39, 40, 41, 42, 43, 44] (by decide +kernel) (by decide +kernel)
set_option maxRecDepth 20000 in
theorem gX2_doTree_X2_parentToBe : GoodIn wsX2_doTree (va_wsS RX2 25 yX2_parentToBe wsX2_parentToBe) := goodIn_app (goodIn_of _ (by decide +kernel)) ggX2_doTree_X2_parentToBe
set_option maxRecDepth 20000 in
theorem ggX2_doTree_X2_distToBe : GoodIn wsX2_doTree wsX2_distToBe := goodIn_r _ [18, 10, 11, 3, 9, 19, 20, 21, 22, 23, 24, 25, 26, 27, 28, 29, 30, 31, 42, 43, 44, 38, 39, 40, 41] (by decide +kernel) (by decide +kernel)
set_option maxRecDepth 20000 in
theorem gX2_doTree_X2_distToBe : GoodIn wsX2_doTree (va_wsS RX2 31 yX2_distToBe wsX2_distToBe) := goodIn_app (goodIn_of _ (by decide +kernel)) ggX2_doTree_X2_distToBe
theorem dX2_doTree_0 : decode cX2_doTree 0 = .ok (.aload_n 0, 1) := by decide +kernel
theorem dX2_doTree_1 : decode cX2_doTree 1 = .ok (.getfield 57, 3) := by decide +kernel
theorem dX2_doTree_4 : decode cX2_doTree 4 = .ok (.getfield 61, 3) := by decide +kernel
theorem dX2_doTree_7 : decode cX2_doTree 7 = .ok (.iconst 1, 1) := by decide +kernel
theorem dX2_doTree_8 : decode cX2_doTree 8 = .ok (.dup2, 1) := by decide +kernel
theorem dX2_doTree_9 : decode cX2_doTree 9 = .ok (.iaload, 1) := by decide +kernel
theorem dX2_doTree_10 : decode cX2_doTree 10 = .ok (.iconst 1, 1) := by decide +kernel
theorem dX2_doTree_11 : decode cX2_doTree 11 = .ok (.iadd, 1) := by decide +kernel
theorem dX2_doTree_12 : decode cX2_doTree 12 = .ok (.iastore, 1) := by decide +kernel
theorem dX2_doTree_13 : decode cX2_doTree 13 = .ok (.aload_n 0, 1) := by decide +kernel
theorem dX2_doTree_14 : decode cX2_doTree 14 = .ok (.iload_n 1, 1) := by decide +kernel
theorem dX2_doTree_15 : decode cX2_doTree 15 = .ok (.invokestatic 25, 3) := by decide +kernel
theorem dX2_doTree_18 : decode cX2_doTree 18 = .ok (.istore_n 2, 1) := by decide +kernel
theorem dX2_doTree_19 : decode cX2_doTree 19 = .ok (.aload_n 0, 1) := by decide +kernel
theorem dX2_doTree_20 : decode cX2_doTree 20 = .ok (.getfield 9, 3) := by decide +kernel
theorem dX2_doTree_23 : decode cX2_doTree 23 = .ok (.getfield 67, 3) := by decide +kernel
theorem dX2_doTree_26 : decode cX2_doTree 26 = .ok (.iload_n 1, 1) := by decide +kernel
theorem dX2_doTree_27 : decode cX2_doTree 27 = .ok (.aaload, 1) := by decide +kernel
theorem dX2_doTree_28 : decode cX2_doTree 28 = .ok (.iconst 1, 1) := by decide +kernel
theorem dX2_doTree_29 : decode cX2_doTree 29 = .ok (.iload_n 2, 1) := by decide +kernel
theorem dX2_doTree_30 : decode cX2_doTree 30 = .ok (.iastore, 1) := by decide +kernel
theorem dX2_doTree_31 : decode cX2_doTree 31 = .ok (.aload_n 0, 1) := by decide +kernel
theorem dX2_doTree_32 : decode cX2_doTree 32 = .ok (.getfield 9, 3) := by decide +kernel
theorem dX2_doTree_35 : decode cX2_doTree 35 = .ok (.getfield 67, 3) := by decide +kernel
theorem dX2_doTree_38 : decode cX2_doTree 38 = .ok (.iload_n 1, 1) := by decide +kernel
theorem dX2_doTree_39 : decode cX2_doTree 39 = .ok (.aaload, 1) := by decide +kernel
theorem dX2_doTree_40 : decode cX2_doTree 40 = .ok (.iconst 0, 1) := by decide +kernel
theorem dX2_doTree_41 : decode cX2_doTree 41 = .ok (.aload_n 0, 1) := by decide +kernel
theorem dX2_doTree_42 : decode cX2_doTree 42 = .ok (.iload_n 1, 1) := by decide +kernel
theorem dX2_doTree_43 : decode cX2_doTree 43 = .ok (.iload_n 2, 1) := by decide +kernel
theorem dX2_doTree_44 : decode cX2_doTree 44 = .ok (.invokestatic 31, 3) := by decide +kernel
theorem dX2_doTree_47 : decode cX2_doTree 47 = .ok (.iastore, 1) := by decide +kernel
theorem dX2_doTree_48 : decode cX2_doTree 48 = .ok (.return_, 1) := by decide +kernel
set_option maxRecDepth 20000 in
theorem ggX2_doWave_X2_phaseToBe : GoodIn wsX2_doWave wsX2_phaseToBe := goodIn_r _ [11, 1, 2, 12, 13, 10, 14, 15, 16, 17, 18, 19, 20, 21, 22, 23, 27, 28, 29, 30, 31, 32, 33, 34, 35, 36, 37, 38, 39, 46, 47, 48] (by decide +kernel) (by decide +kernel)
set_option maxRecDepth 20000 in
theorem gX2_doWave_X2_phaseToBe : GoodIn wsX2_doWave (va_wsS RX2 35 yX2_phaseToBe wsX2_phaseToBe) := goodIn_app (goodIn_of _ (by decide +kernel)) ggX2_doWave_X2_phaseToBe
set_option maxRecDepth 20000 in
theorem ggX2_doWave_X2_sumToBe : GoodIn wsX2_doWave wsX2_sumToBe := goodIn_r _ [26, 1, 2, 18, 19, 20, 21, 22, 23, 27, 28, 29, 30, 31, 32, 33, 34, 35, 36, 37, 38, 39, 46, 47, 48] (by decide +kernel) (by decide +kernel)
set_option maxRecDepth 20000 in
theorem gX2_doWave_X2_sumToBe : GoodIn wsX2_doWave (va_wsS RX2 76 yX2_sumToBe wsX2_sumToBe) := goodIn_app (goodIn_of _ (by decide +kernel)) ggX2_doWave_X2_sumToBe
theorem dX2_doWave_0 : decode cX2_doWave 0 = .ok (.aload_n 0, 1) := by decide +kernel
theorem dX2_doWave_1 : decode cX2_doWave 1 = .ok (.getfield 9, 3) := by decide +kernel
theorem dX2_doWave_4 : decode cX2_doWave 4 = .ok (.getfield 21, 3) := by decide +kernel
theorem dX2_doWave_7 : decode cX2_doWave 7 = .ok (.iload_n 1, 1) := by decide +kernel
theorem dX2_doWave_8 : decode cX2_doWave 8 = .ok (.aaload, 1) := by decide +kernel
theorem dX2_doWave_9 : decode cX2_doWave 9 = .ok (.iconst 2, 1) := by decide +kernel
theorem dX2_doWave_10 : decode cX2_doWave 10 = .ok (.iaload, 1) := by decide +kernel
theorem dX2_doWave_11 : decode cX2_doWave 11 = .ok (.istore_n 2, 1) := by decide +kernel
theorem dX2_doWave_12 : decode cX2_doWave 12 = .ok (.aload_n 0, 1) := by decide +kernel
theorem dX2_doWave_13 : decode cX2_doWave 13 = .ok (.iload_n 1, 1) := by decide +kernel
theorem dX2_doWave_14 : decode cX2_doWave 14 = .ok (.invokestatic 35, 3) := by decide +kernel
theorem dX2_doWave_17 : decode cX2_doWave 17 = .ok (.istore_n 3, 1) := by decide +kernel
theorem dX2_doWave_18 : decode cX2_doWave 18 = .ok (.iload_n 3, 1) := by decide +kernel
theorem dX2_doWave_19 : decode cX2_doWave 19 = .ok (.iload_n 2, 1) := by decide +kernel
theorem dX2_doWave_20 : decode cX2_doWave 20 = .ok (.if_icmp .ne 4, 3) := by decide +kernel
theorem dX2_doWave_23 : decode cX2_doWave 23 = .ok (.return_, 1) := by decide +kernel
theorem dX2_doWave_24 : decode cX2_doWave 24 = .ok (.aload_n 0, 1) := by decide +kernel
theorem dX2_doWave_25 : decode cX2_doWave 25 = .ok (.getfield 57, 3) := by decide +kernel
theorem dX2_doWave_28 : decode cX2_doWave 28 = .ok (.getfield 61, 3) := by decide +kernel
theorem dX2_doWave_31 : decode cX2_doWave 31 = .ok (.iconst 2, 1) := by decide +kernel
theorem dX2_doWave_32 : decode cX2_doWave 32 = .ok (.dup2, 1) := by decide +kernel
theorem dX2_doWave_33 : decode cX2_doWave 33 = .ok (.iaload, 1) := by decide +kernel
theorem dX2_doWave_34 : decode cX2_doWave 34 = .ok (.iconst 1, 1) := by decide +kernel
theorem dX2_doWave_35 : decode cX2_doWave 35 = .ok (.iadd, 1) := by decide +kernel
theorem dX2_doWave_36 : decode cX2_doWave 36 = .ok (.iastore, 1) := by decide +kernel
theorem dX2_doWave_37 : decode cX2_doWave 37 = .ok (.aload_n 0, 1) := by decide +kernel
theorem dX2_doWave_38 : decode cX2_doWave 38 = .ok (.getfield 9, 3) := by decide +kernel
theorem dX2_doWave_41 : decode cX2_doWave 41 = .ok (.getfield 67, 3) := by decide +kernel
theorem dX2_doWave_44 : decode cX2_doWave 44 = .ok (.iload_n 1, 1) := by decide +kernel
theorem dX2_doWave_45 : decode cX2_doWave 45 = .ok (.aaload, 1) := by decide +kernel
theorem dX2_doWave_46 : decode cX2_doWave 46 = .ok (.iconst 2, 1) := by decide +kernel
theorem dX2_doWave_47 : decode cX2_doWave 47 = .ok (.iload_n 3, 1) := by decide +kernel
theorem dX2_doWave_48 : decode cX2_doWave 48 = .ok (.iastore, 1) := by decide +kernel
theorem dX2_doWave_49 : decode cX2_doWave 49 = .ok (.iload_n 1, 1) := by decide +kernel
theorem dX2_doWave_50 : decode cX2_doWave 50 = .ok (.ifCond .ne 12, 3) := by decide +kernel
theorem dX2_doWave_53 : decode cX2_doWave 53 = .ok (.iload_n 2, 1) := by decide +kernel
theorem dX2_doWave_54 : decode cX2_doWave 54 = .ok (.iconst 1, 1) := by decide +kernel
theorem dX2_doWave_55 : decode cX2_doWave 55 = .ok (.if_icmp .ne 7, 3) := by decide +kernel
theorem dX2_doWave_58 : decode cX2_doWave 58 = .ok (.iconst 1, 1) := by decide +kernel
theorem dX2_doWave_59 : decode cX2_doWave 59 = .ok (.goto 4, 3) := by decide +kernel
theorem dX2_doWave_62 : decode cX2_doWave 62 = .ok (.iconst 0, 1) := by decide +kernel
theorem dX2_doWave_63 : decode cX2_doWave 63 = .ok (.istore 4, 2) := by decide +kernel
theorem dX2_doWave_65 : decode cX2_doWave 65 = .ok (.iload 4, 2) := by decide +kernel
theorem dX2_doWave_67 : decode cX2_doWave 67 = .ok (.ifCond .ne 8, 3) := by decide +kernel
theorem dX2_doWave_70 : decode cX2_doWave 70 = .ok (.iload_n 3, 1) := by decide +kernel
theorem dX2_doWave_71 : decode cX2_doWave 71 = .ok (.iconst 2, 1) := by decide +kernel
theorem dX2_doWave_72 : decode cX2_doWave 72 = .ok (.if_icmp .ne 19, 3) := by decide +kernel
theorem dX2_doWave_75 : decode cX2_doWave 75 = .ok (.aload_n 0, 1) := by decide +kernel
theorem dX2_doWave_76 : decode cX2_doWave 76 = .ok (.getfield 9, 3) := by decide +kernel
theorem dX2_doWave_79 : decode cX2_doWave 79 = .ok (.getfield 67, 3) := by decide +kernel
theorem dX2_doWave_82 : decode cX2_doWave 82 = .ok (.iload_n 1, 1) := by decide +kernel
theorem dX2_doWave_83 : decode cX2_doWave 83 = .ok (.aaload, 1) := by decide +kernel
theorem dX2_doWave_84 : decode cX2_doWave 84 = .ok (.iconst 3, 1) := by decide +kernel
theorem dX2_doWave_85 : decode cX2_doWave 85 = .ok (.aload_n 0, 1) := by decide +kernel
theorem dX2_doWave_86 : decode cX2_doWave 86 = .ok (.iload_n 1, 1) := by decide +kernel
theorem dX2_doWave_87 : decode cX2_doWave 87 = .ok (.invokestatic 76, 3) := by decide +kernel
theorem dX2_doWave_90 : decode cX2_doWave 90 = .ok (.iastore, 1) := by decide +kernel
theorem dX2_doWave_91 : decode cX2_doWave 91 = .ok (.iload 4, 2) := by decide +kernel
theorem dX2_doWave_93 : decode cX2_doWave 93 = .ok (.ifCond .eq 34, 3) := by decide +kernel
theorem dX2_doWave_96 : decode cX2_doWave 96 = .ok (.aload_n 0, 1) := by decide +kernel
theorem dX2_doWave_97 : decode cX2_doWave 97 = .ok (.getfield 57, 3) := by decide +kernel
theorem dX2_doWave_100 : decode cX2_doWave 100 = .ok (.dup, 1) := by decide +kernel
theorem dX2_doWave_101 : decode cX2_doWave 101 = .ok (.getfield 79, 3) := by decide +kernel
theorem dX2_doWave_104 : decode cX2_doWave 104 = .ok (.iconst 1, 1) := by decide +kernel
theorem dX2_doWave_105 : decode cX2_doWave 105 = .ok (.iadd, 1) := by decide +kernel
theorem dX2_doWave_106 : decode cX2_doWave 106 = .ok (.putfield 79, 3) := by decide +kernel
theorem dX2_doWave_109 : decode cX2_doWave 109 = .ok (.aload_n 0, 1) := by decide +kernel
theorem dX2_doWave_110 : decode cX2_doWave 110 = .ok (.getfield 57, 3) := by decide +kernel
theorem dX2_doWave_113 : decode cX2_doWave 113 = .ok (.aload_n 0, 1) := by decide +kernel
theorem dX2_doWave_114 : decode cX2_doWave 114 = .ok (.getfield 9, 3) := by decide +kernel
theorem dX2_doWave_117 : decode cX2_doWave 117 = .ok (.getfield 67, 3) := by decide +kernel
theorem dX2_doWave_120 : decode cX2_doWave 120 = .ok (.iload_n 1, 1) := by decide +kernel
theorem dX2_doWave_121 : decode cX2_doWave 121 = .ok (.aaload, 1) := by decide +kernel
theorem dX2_doWave_122 : decode cX2_doWave 122 = .ok (.iconst 3, 1) := by decide +kernel
theorem dX2_doWave_123 : decode cX2_doWave 123 = .ok (.iaload, 1) := by decide +kernel
theorem dX2_doWave_124 : decode cX2_doWave 124 = .ok (.putfield 83, 3) := by decide +kernel
theorem dX2_doWave_127 : decode cX2_doWave 127 = .ok (.return_, 1) := by decide +kernel
set_option maxRecDepth 20000 in
theorem ggX2_doRing_X2_rightsOf : GoodIn wsX2_doRing wsX2_rightsOf := goodIn_r _ [10, 4, 11, 5, 12, 13, 14, 15, 16, 17, 18, 9, 19, 20, 21, 22, 23, 24, 25, 26, 36, 37, 38, 39, 40, 41, 42, 43, 44, 55, 56, 57, 51, 52, 53, 54] (by decide +kernel) (by decide +kernel)
set_option maxRecDepth 20000 in
theorem gX2_doRing_X2_rightsOf : GoodIn wsX2_doRing (va_wsS RX2 38 yX2_rightsOf wsX2_rightsOf) := goodIn_app (goodIn_of _ (by decide +kernel)) ggX2_doRing_X2_rightsOf
set_option maxRecDepth 20000 in
theorem ggX2_doRing_X5_pick : GoodIn wsX2_doRing wsX5_pick := goodIn_r _ [28, 29, 14, 15, 16] (by decide +kernel) (by decide +kernel)
set_option maxRecDepth 20000 in
theorem gX2_doRing_X5_pick_n86 : GoodIn wsX2_doRing (wsX5_pick) := ggX2_doRing_X5_pick
set_option maxRecDepth 20000 in
theorem ggX2_doRing_X2_xBefore : GoodIn wsX2_doRing wsX2_xBefore := goodIn_r _ [19, 5, 12, 13, 20, 15, 21, 22, 23, 36, 37, 38, 39, 40, 41, 42, 43, 44, 51, 52, 53, 54] (by decide +kernel) (by decide +kernel)
set_option maxRecDepth 20000 in
theorem gX2_doRing_X2_xBefore : GoodIn wsX2_doRing (va_wsS RX2 93 yX2_xBefore wsX2_xBefore) := goodIn_app (goodIn_of _ (by decide +kernel)) ggX2_doRing_X2_xBefore
set_option maxRecDepth 20000 in
theorem ggX2_doRing_X2_isBottom : GoodIn wsX2_doRing wsX2_isBottom := goodIn_r _ [26, 5, 12, 20, 15, 21, 36, 37, 38, 39, 40, 41, 42, 43, 44, 51, 52, 53, 54] (by decide +kernel) (by decide +kernel)
set_option maxRecDepth 20000 in
theorem gX2_doRing_X2_isBottom : GoodIn wsX2_doRing (va_wsS RX2 96 yX2_isBottom wsX2_isBottom) := goodIn_app (goodIn_of _ (by decide +kernel)) ggX2_doRing_X2_isBottom
set_option maxRecDepth 20000 in
theorem ggX2_doRing_X3_greatestX : GoodIn wsX2_doRing wsX3_greatestX := goodIn_r _ [34, 35, 55, 56, 57] (by decide +kernel) (by decide +kernel)
set_option maxRecDepth 20000 in
theorem gX2_doRing_X3_greatestX : GoodIn wsX2_doRing (wsV RX2 104 RX3 yX3_greatestX wsX3_greatestX) := goodIn_app (goodIn_of _ (by decide +kernel)) ggX2_doRing_X3_greatestX
theorem dX2_doRing_0 : decode cX2_doRing 0 = .ok (.aload_n 0, 1) := by decide +kernel
theorem dX2_doRing_1 : decode cX2_doRing 1 = .ok (.iload_n 1, 1) := by decide +kernel
theorem dX2_doRing_2 : decode cX2_doRing 2 = .ok (.invokestatic 38, 3) := by decide +kernel
theorem dX2_doRing_5 : decode cX2_doRing 5 = .ok (.iconst 0, 1) := by decide +kernel
theorem dX2_doRing_6 : decode cX2_doRing 6 = .ok (.invokestatic 86, 3) := by decide +kernel
theorem dX2_doRing_9 : decode cX2_doRing 9 = .ok (.istore_n 2, 1) := by decide +kernel
theorem dX2_doRing_10 : decode cX2_doRing 10 = .ok (.iload_n 2, 1) := by decide +kernel
theorem dX2_doRing_11 : decode cX2_doRing 11 = .ok (.iconst (-1), 1) := by decide +kernel
theorem dX2_doRing_12 : decode cX2_doRing 12 = .ok (.if_icmp .ne 4, 3) := by decide +kernel
theorem dX2_doRing_15 : decode cX2_doRing 15 = .ok (.return_, 1) := by decide +kernel
theorem dX2_doRing_16 : decode cX2_doRing 16 = .ok (.aload_n 0, 1) := by decide +kernel
theorem dX2_doRing_17 : decode cX2_doRing 17 = .ok (.getfield 57, 3) := by decide +kernel
theorem dX2_doRing_20 : decode cX2_doRing 20 = .ok (.getfield 61, 3) := by decide +kernel
theorem dX2_doRing_23 : decode cX2_doRing 23 = .ok (.iconst 3, 1) := by decide +kernel
theorem dX2_doRing_24 : decode cX2_doRing 24 = .ok (.dup2, 1) := by decide +kernel
theorem dX2_doRing_25 : decode cX2_doRing 25 = .ok (.iaload, 1) := by decide +kernel
theorem dX2_doRing_26 : decode cX2_doRing 26 = .ok (.iconst 1, 1) := by decide +kernel
theorem dX2_doRing_27 : decode cX2_doRing 27 = .ok (.iadd, 1) := by decide +kernel
theorem dX2_doRing_28 : decode cX2_doRing 28 = .ok (.iastore, 1) := by decide +kernel
theorem dX2_doRing_29 : decode cX2_doRing 29 = .ok (.aload_n 0, 1) := by decide +kernel
theorem dX2_doRing_30 : decode cX2_doRing 30 = .ok (.getfield 57, 3) := by decide +kernel
theorem dX2_doRing_33 : decode cX2_doRing 33 = .ok (.getfield 90, 3) := by decide +kernel
theorem dX2_doRing_36 : decode cX2_doRing 36 = .ok (.iload_n 1, 1) := by decide +kernel
theorem dX2_doRing_37 : decode cX2_doRing 37 = .ok (.dup2, 1) := by decide +kernel
theorem dX2_doRing_38 : decode cX2_doRing 38 = .ok (.iaload, 1) := by decide +kernel
theorem dX2_doRing_39 : decode cX2_doRing 39 = .ok (.iconst 1, 1) := by decide +kernel
theorem dX2_doRing_40 : decode cX2_doRing 40 = .ok (.iadd, 1) := by decide +kernel
theorem dX2_doRing_41 : decode cX2_doRing 41 = .ok (.iastore, 1) := by decide +kernel
theorem dX2_doRing_42 : decode cX2_doRing 42 = .ok (.aload_n 0, 1) := by decide +kernel
theorem dX2_doRing_43 : decode cX2_doRing 43 = .ok (.iload_n 1, 1) := by decide +kernel
theorem dX2_doRing_44 : decode cX2_doRing 44 = .ok (.iload_n 2, 1) := by decide +kernel
theorem dX2_doRing_45 : decode cX2_doRing 45 = .ok (.invokestatic 93, 3) := by decide +kernel
theorem dX2_doRing_48 : decode cX2_doRing 48 = .ok (.istore_n 3, 1) := by decide +kernel
theorem dX2_doRing_49 : decode cX2_doRing 49 = .ok (.aload_n 0, 1) := by decide +kernel
theorem dX2_doRing_50 : decode cX2_doRing 50 = .ok (.iload_n 1, 1) := by decide +kernel
theorem dX2_doRing_51 : decode cX2_doRing 51 = .ok (.iload_n 2, 1) := by decide +kernel
theorem dX2_doRing_52 : decode cX2_doRing 52 = .ok (.invokestatic 96, 3) := by decide +kernel
theorem dX2_doRing_55 : decode cX2_doRing 55 = .ok (.ifCond .eq 22, 3) := by decide +kernel
theorem dX2_doRing_58 : decode cX2_doRing 58 = .ok (.iload_n 3, 1) := by decide +kernel
theorem dX2_doRing_59 : decode cX2_doRing 59 = .ok (.aload_n 0, 1) := by decide +kernel
theorem dX2_doRing_60 : decode cX2_doRing 60 = .ok (.getfield 100, 3) := by decide +kernel
theorem dX2_doRing_63 : decode cX2_doRing 63 = .ok (.invokevirtual 104, 3) := by decide +kernel
theorem dX2_doRing_66 : decode cX2_doRing 66 = .ok (.if_icmp .ge 9, 3) := by decide +kernel
theorem dX2_doRing_69 : decode cX2_doRing 69 = .ok (.iload_n 3, 1) := by decide +kernel
theorem dX2_doRing_70 : decode cX2_doRing 70 = .ok (.iconst 1, 1) := by decide +kernel
theorem dX2_doRing_71 : decode cX2_doRing 71 = .ok (.iadd, 1) := by decide +kernel
theorem dX2_doRing_72 : decode cX2_doRing 72 = .ok (.goto 4, 3) := by decide +kernel
theorem dX2_doRing_75 : decode cX2_doRing 75 = .ok (.iconst 0, 1) := by decide +kernel
theorem dX2_doRing_76 : decode cX2_doRing 76 = .ok (.istore_n 3, 1) := by decide +kernel
theorem dX2_doRing_77 : decode cX2_doRing 77 = .ok (.aload_n 0, 1) := by decide +kernel
theorem dX2_doRing_78 : decode cX2_doRing 78 = .ok (.getfield 9, 3) := by decide +kernel
theorem dX2_doRing_81 : decode cX2_doRing 81 = .ok (.getfield 67, 3) := by decide +kernel
theorem dX2_doRing_84 : decode cX2_doRing 84 = .ok (.iload_n 1, 1) := by decide +kernel
theorem dX2_doRing_85 : decode cX2_doRing 85 = .ok (.aaload, 1) := by decide +kernel
theorem dX2_doRing_86 : decode cX2_doRing 86 = .ok (.iconst 5, 1) := by decide +kernel
theorem dX2_doRing_87 : decode cX2_doRing 87 = .ok (.iload_n 2, 1) := by decide +kernel
theorem dX2_doRing_88 : decode cX2_doRing 88 = .ok (.iadd, 1) := by decide +kernel
theorem dX2_doRing_89 : decode cX2_doRing 89 = .ok (.iload_n 3, 1) := by decide +kernel
theorem dX2_doRing_90 : decode cX2_doRing 90 = .ok (.iastore, 1) := by decide +kernel
theorem dX2_doRing_91 : decode cX2_doRing 91 = .ok (.return_, 1) := by decide +kernel
set_option maxRecDepth 20000 in
theorem ggX2_parentToBe_X5_has : GoodIn wsX2_parentToBe wsX5_has := goodIn_r _ [8] (by decide +kernel) (by decide +kernel)
set_option maxRecDepth 20000 in
theorem gX2_parentToBe_X5_has_n116 : GoodIn wsX2_parentToBe (wsX5_has) := ggX2_parentToBe_X5_has
theorem dX2_parentToBe_0 : decode cX2_parentToBe 0 = .ok (.iload_n 1, 1) := by decide +kernel
theorem dX2_parentToBe_1 : decode cX2_parentToBe 1 = .ok (.ifCond .ne 5, 3) := by decide +kernel
theorem dX2_parentToBe_4 : decode cX2_parentToBe 4 = .ok (.iconst (-1), 1) := by decide +kernel
theorem dX2_parentToBe_5 : decode cX2_parentToBe 5 = .ok (.ireturn, 1) := by decide +kernel
theorem dX2_parentToBe_6 : decode cX2_parentToBe 6 = .ok (.aload_n 0, 1) := by decide +kernel
theorem dX2_parentToBe_7 : decode cX2_parentToBe 7 = .ok (.getfield 9, 3) := by decide +kernel
theorem dX2_parentToBe_10 : decode cX2_parentToBe 10 = .ok (.getfield 21, 3) := by decide +kernel
theorem dX2_parentToBe_13 : decode cX2_parentToBe 13 = .ok (.astore_n 2, 1) := by decide +kernel
theorem dX2_parentToBe_14 : decode cX2_parentToBe 14 = .ok (.iconst (-1), 1) := by decide +kernel
theorem dX2_parentToBe_15 : decode cX2_parentToBe 15 = .ok (.istore_n 3, 1) := by decide +kernel
theorem dX2_parentToBe_16 : decode cX2_parentToBe 16 = .ok (.iconst 0, 1) := by decide +kernel
theorem dX2_parentToBe_17 : decode cX2_parentToBe 17 = .ok (.istore 4, 2) := by decide +kernel
theorem dX2_parentToBe_19 : decode cX2_parentToBe 19 = .ok (.iload 4, 2) := by decide +kernel
theorem dX2_parentToBe_21 : decode cX2_parentToBe 21 = .ok (.aload_n 0, 1) := by decide +kernel
theorem dX2_parentToBe_22 : decode cX2_parentToBe 22 = .ok (.getfield 100, 3) := by decide +kernel
theorem dX2_parentToBe_25 : decode cX2_parentToBe 25 = .ok (.getfield 110, 3) := by decide +kernel
theorem dX2_parentToBe_28 : decode cX2_parentToBe 28 = .ok (.if_icmp .ge 48, 3) := by decide +kernel
theorem dX2_parentToBe_31 : decode cX2_parentToBe 31 = .ok (.aload_n 0, 1) := by decide +kernel
theorem dX2_parentToBe_32 : decode cX2_parentToBe 32 = .ok (.getfield 100, 3) := by decide +kernel
theorem dX2_parentToBe_35 : decode cX2_parentToBe 35 = .ok (.getfield 113, 3) := by decide +kernel
theorem dX2_parentToBe_38 : decode cX2_parentToBe 38 = .ok (.iload_n 1, 1) := by decide +kernel
theorem dX2_parentToBe_39 : decode cX2_parentToBe 39 = .ok (.iaload, 1) := by decide +kernel
theorem dX2_parentToBe_40 : decode cX2_parentToBe 40 = .ok (.iload 4, 2) := by decide +kernel
theorem dX2_parentToBe_42 : decode cX2_parentToBe 42 = .ok (.invokestatic 116, 3) := by decide +kernel
theorem dX2_parentToBe_45 : decode cX2_parentToBe 45 = .ok (.ifCond .eq 25, 3) := by decide +kernel
theorem dX2_parentToBe_48 : decode cX2_parentToBe 48 = .ok (.iload_n 3, 1) := by decide +kernel
theorem dX2_parentToBe_49 : decode cX2_parentToBe 49 = .ok (.iconst (-1), 1) := by decide +kernel
theorem dX2_parentToBe_50 : decode cX2_parentToBe 50 = .ok (.if_icmp .eq 17, 3) := by decide +kernel
theorem dX2_parentToBe_53 : decode cX2_parentToBe 53 = .ok (.aload_n 2, 1) := by decide +kernel
theorem dX2_parentToBe_54 : decode cX2_parentToBe 54 = .ok (.iload 4, 2) := by decide +kernel
theorem dX2_parentToBe_56 : decode cX2_parentToBe 56 = .ok (.aaload, 1) := by decide +kernel
theorem dX2_parentToBe_57 : decode cX2_parentToBe 57 = .ok (.iconst 0, 1) := by decide +kernel
theorem dX2_parentToBe_58 : decode cX2_parentToBe 58 = .ok (.iaload, 1) := by decide +kernel
theorem dX2_parentToBe_59 : decode cX2_parentToBe 59 = .ok (.aload_n 2, 1) := by decide +kernel
theorem dX2_parentToBe_60 : decode cX2_parentToBe 60 = .ok (.iload_n 3, 1) := by decide +kernel
theorem dX2_parentToBe_61 : decode cX2_parentToBe 61 = .ok (.aaload, 1) := by decide +kernel
theorem dX2_parentToBe_62 : decode cX2_parentToBe 62 = .ok (.iconst 0, 1) := by decide +kernel
theorem dX2_parentToBe_63 : decode cX2_parentToBe 63 = .ok (.iaload, 1) := by decide +kernel
theorem dX2_parentToBe_64 : decode cX2_parentToBe 64 = .ok (.if_icmp .ge 6, 3) := by decide +kernel
theorem dX2_parentToBe_67 : decode cX2_parentToBe 67 = .ok (.iload 4, 2) := by decide +kernel
theorem dX2_parentToBe_69 : decode cX2_parentToBe 69 = .ok (.istore_n 3, 1) := by decide +kernel
theorem dX2_parentToBe_70 : decode cX2_parentToBe 70 = .ok (.iinc 4 1, 3) := by decide +kernel
theorem dX2_parentToBe_73 : decode cX2_parentToBe 73 = .ok (.goto (-54), 3) := by decide +kernel
theorem dX2_parentToBe_76 : decode cX2_parentToBe 76 = .ok (.iload_n 3, 1) := by decide +kernel
theorem dX2_parentToBe_77 : decode cX2_parentToBe 77 = .ok (.ireturn, 1) := by decide +kernel
theorem dX2_distToBe_0 : decode cX2_distToBe 0 = .ok (.iload_n 1, 1) := by decide +kernel
theorem dX2_distToBe_1 : decode cX2_distToBe 1 = .ok (.ifCond .ne 5, 3) := by decide +kernel
theorem dX2_distToBe_4 : decode cX2_distToBe 4 = .ok (.iconst 0, 1) := by decide +kernel
theorem dX2_distToBe_5 : decode cX2_distToBe 5 = .ok (.ireturn, 1) := by decide +kernel
theorem dX2_distToBe_6 : decode cX2_distToBe 6 = .ok (.aload_n 0, 1) := by decide +kernel
theorem dX2_distToBe_7 : decode cX2_distToBe 7 = .ok (.getfield 100, 3) := by decide +kernel
theorem dX2_distToBe_10 : decode cX2_distToBe 10 = .ok (.getfield 110, 3) := by decide +kernel
theorem dX2_distToBe_13 : decode cX2_distToBe 13 = .ok (.istore_n 3, 1) := by decide +kernel
theorem dX2_distToBe_14 : decode cX2_distToBe 14 = .ok (.iload_n 2, 1) := by decide +kernel
theorem dX2_distToBe_15 : decode cX2_distToBe 15 = .ok (.iconst (-1), 1) := by decide +kernel
theorem dX2_distToBe_16 : decode cX2_distToBe 16 = .ok (.if_icmp .ne 7, 3) := by decide +kernel
theorem dX2_distToBe_19 : decode cX2_distToBe 19 = .ok (.iload_n 3, 1) := by decide +kernel
theorem dX2_distToBe_20 : decode cX2_distToBe 20 = .ok (.goto 20, 3) := by decide +kernel
theorem dX2_distToBe_23 : decode cX2_distToBe 23 = .ok (.aload_n 0, 1) := by decide +kernel
theorem dX2_distToBe_24 : decode cX2_distToBe 24 = .ok (.getfield 9, 3) := by decide +kernel
theorem dX2_distToBe_27 : decode cX2_distToBe 27 = .ok (.getfield 21, 3) := by decide +kernel
theorem dX2_distToBe_30 : decode cX2_distToBe 30 = .ok (.iload_n 2, 1) := by decide +kernel
theorem dX2_distToBe_31 : decode cX2_distToBe 31 = .ok (.aaload, 1) := by decide +kernel
theorem dX2_distToBe_32 : decode cX2_distToBe 32 = .ok (.iconst 0, 1) := by decide +kernel
theorem dX2_distToBe_33 : decode cX2_distToBe 33 = .ok (.iaload, 1) := by decide +kernel
theorem dX2_distToBe_34 : decode cX2_distToBe 34 = .ok (.iconst 1, 1) := by decide +kernel
theorem dX2_distToBe_35 : decode cX2_distToBe 35 = .ok (.iadd, 1) := by decide +kernel
theorem dX2_distToBe_36 : decode cX2_distToBe 36 = .ok (.iload_n 3, 1) := by decide +kernel
theorem dX2_distToBe_37 : decode cX2_distToBe 37 = .ok (.invokestatic 120, 3) := by decide +kernel
theorem dX2_distToBe_40 : decode cX2_distToBe 40 = .ok (.ireturn, 1) := by decide +kernel
set_option maxRecDepth 20000 in
theorem ggX2_phaseToBe_X2_phaseAbove : GoodIn wsX2_phaseToBe wsX2_phaseAbove := goodIn_r _ [6, 1, 2, 16, 17, 18, 19, 20, 21, 22, 23, 24, 25, 26, 27, 28] (by decide +kernel) (by decide +kernel)
set_option maxRecDepth 20000 in
theorem gX2_phaseToBe_X2_phaseAbove : GoodIn wsX2_phaseToBe (va_wsS RX2 125 yX2_phaseAbove wsX2_phaseAbove) := goodIn_app (goodIn_of _ (by decide +kernel)) ggX2_phaseToBe_X2_phaseAbove
set_option maxRecDepth 20000 in
theorem ggX2_phaseToBe_X2_areChildren : GoodIn wsX2_phaseToBe wsX2_areChildren := goodIn_r _ [9, 10, 11, 1, 12, 2, 13, 14, 15, 16, 17, 18, 19, 20, 21, 22, 23, 24, 29, 30, 31, 25, 26, 27, 28] (by decide +kernel) (by decide +kernel)
set_option maxRecDepth 20000 in
theorem gX2_phaseToBe_X2_areChildren : GoodIn wsX2_phaseToBe (va_wsS RX2 128 yX2_areChildren wsX2_areChildren) := goodIn_app (goodIn_of _ (by decide +kernel)) ggX2_phaseToBe_X2_areChildren
theorem dX2_phaseToBe_0 : decode cX2_phaseToBe 0 = .ok (.iload_n 1, 1) := by decide +kernel
theorem dX2_phaseToBe_1 : decode cX2_phaseToBe 1 = .ok (.ifCond .ne 7, 3) := by decide +kernel
theorem dX2_phaseToBe_4 : decode cX2_phaseToBe 4 = .ok (.iconst 1, 1) := by decide +kernel
theorem dX2_phaseToBe_5 : decode cX2_phaseToBe 5 = .ok (.goto 4, 3) := by decide +kernel
theorem dX2_phaseToBe_8 : decode cX2_phaseToBe 8 = .ok (.iconst 0, 1) := by decide +kernel
theorem dX2_phaseToBe_9 : decode cX2_phaseToBe 9 = .ok (.istore_n 2, 1) := by decide +kernel
theorem dX2_phaseToBe_10 : decode cX2_phaseToBe 10 = .ok (.aload_n 0, 1) := by decide +kernel
theorem dX2_phaseToBe_11 : decode cX2_phaseToBe 11 = .ok (.iload_n 1, 1) := by decide +kernel
theorem dX2_phaseToBe_12 : decode cX2_phaseToBe 12 = .ok (.invokestatic 125, 3) := by decide +kernel
theorem dX2_phaseToBe_15 : decode cX2_phaseToBe 15 = .ok (.istore_n 3, 1) := by decide +kernel
theorem dX2_phaseToBe_16 : decode cX2_phaseToBe 16 = .ok (.aload_n 0, 1) := by decide +kernel
theorem dX2_phaseToBe_17 : decode cX2_phaseToBe 17 = .ok (.getfield 9, 3) := by decide +kernel
theorem dX2_phaseToBe_20 : decode cX2_phaseToBe 20 = .ok (.getfield 21, 3) := by decide +kernel
theorem dX2_phaseToBe_23 : decode cX2_phaseToBe 23 = .ok (.iload_n 1, 1) := by decide +kernel
theorem dX2_phaseToBe_24 : decode cX2_phaseToBe 24 = .ok (.aaload, 1) := by decide +kernel
theorem dX2_phaseToBe_25 : decode cX2_phaseToBe 25 = .ok (.iconst 2, 1) := by decide +kernel
theorem dX2_phaseToBe_26 : decode cX2_phaseToBe 26 = .ok (.iaload, 1) := by decide +kernel
theorem dX2_phaseToBe_27 : decode cX2_phaseToBe 27 = .ok (.lookupswitch 81 #[(0, 25), (1, 49)], 25) := by decide +kernel
theorem dX2_phaseToBe_52 : decode cX2_phaseToBe 52 = .ok (.iload_n 2, 1) := by decide +kernel
theorem dX2_phaseToBe_53 : decode cX2_phaseToBe 53 = .ok (.ifCond .ne 8, 3) := by decide +kernel
theorem dX2_phaseToBe_56 : decode cX2_phaseToBe 56 = .ok (.iload_n 3, 1) := by decide +kernel
theorem dX2_phaseToBe_57 : decode cX2_phaseToBe 57 = .ok (.iconst 1, 1) := by decide +kernel
theorem dX2_phaseToBe_58 : decode cX2_phaseToBe 58 = .ok (.if_icmp .ne 16, 3) := by decide +kernel
theorem dX2_phaseToBe_61 : decode cX2_phaseToBe 61 = .ok (.aload_n 0, 1) := by decide +kernel
theorem dX2_phaseToBe_62 : decode cX2_phaseToBe 62 = .ok (.iload_n 1, 1) := by decide +kernel
theorem dX2_phaseToBe_63 : decode cX2_phaseToBe 63 = .ok (.iconst 0, 1) := by decide +kernel
theorem dX2_phaseToBe_64 : decode cX2_phaseToBe 64 = .ok (.invokestatic 128, 3) := by decide +kernel
theorem dX2_phaseToBe_67 : decode cX2_phaseToBe 67 = .ok (.ifCond .eq 7, 3) := by decide +kernel
theorem dX2_phaseToBe_70 : decode cX2_phaseToBe 70 = .ok (.iconst 1, 1) := by decide +kernel
theorem dX2_phaseToBe_71 : decode cX2_phaseToBe 71 = .ok (.goto 4, 3) := by decide +kernel
theorem dX2_phaseToBe_74 : decode cX2_phaseToBe 74 = .ok (.iconst 0, 1) := by decide +kernel
theorem dX2_phaseToBe_75 : decode cX2_phaseToBe 75 = .ok (.ireturn, 1) := by decide +kernel
theorem dX2_phaseToBe_76 : decode cX2_phaseToBe 76 = .ok (.iload_n 2, 1) := by decide +kernel
theorem dX2_phaseToBe_77 : decode cX2_phaseToBe 77 = .ok (.ifCond .ne 10, 3) := by decide +kernel
theorem dX2_phaseToBe_80 : decode cX2_phaseToBe 80 = .ok (.iload_n 3, 1) := by decide +kernel
theorem dX2_phaseToBe_81 : decode cX2_phaseToBe 81 = .ok (.iconst 1, 1) := by decide +kernel
theorem dX2_phaseToBe_82 : decode cX2_phaseToBe 82 = .ok (.if_icmp .eq 5, 3) := by decide +kernel
theorem dX2_phaseToBe_85 : decode cX2_phaseToBe 85 = .ok (.iconst 0, 1) := by decide +kernel
theorem dX2_phaseToBe_86 : decode cX2_phaseToBe 86 = .ok (.ireturn, 1) := by decide +kernel
theorem dX2_phaseToBe_87 : decode cX2_phaseToBe 87 = .ok (.aload_n 0, 1) := by decide +kernel
theorem dX2_phaseToBe_88 : decode cX2_phaseToBe 88 = .ok (.iload_n 1, 1) := by decide +kernel
theorem dX2_phaseToBe_89 : decode cX2_phaseToBe 89 = .ok (.iconst 2, 1) := by decide +kernel
theorem dX2_phaseToBe_90 : decode cX2_phaseToBe 90 = .ok (.invokestatic 128, 3) := by decide +kernel
theorem dX2_phaseToBe_93 : decode cX2_phaseToBe 93 = .ok (.ifCond .ne 5, 3) := by decide +kernel
theorem dX2_phaseToBe_96 : decode cX2_phaseToBe 96 = .ok (.iconst 1, 1) := by decide +kernel
theorem dX2_phaseToBe_97 : decode cX2_phaseToBe 97 = .ok (.ireturn, 1) := by decide +kernel
theorem dX2_phaseToBe_98 : decode cX2_phaseToBe 98 = .ok (.iload_n 2, 1) := by decide +kernel
theorem dX2_phaseToBe_99 : decode cX2_phaseToBe 99 = .ok (.ifCond .eq 7, 3) := by decide +kernel
theorem dX2_phaseToBe_102 : decode cX2_phaseToBe 102 = .ok (.iconst 0, 1) := by decide +kernel
theorem dX2_phaseToBe_103 : decode cX2_phaseToBe 103 = .ok (.goto 4, 3) := by decide +kernel
theorem dX2_phaseToBe_106 : decode cX2_phaseToBe 106 = .ok (.iconst 2, 1) := by decide +kernel
theorem dX2_phaseToBe_107 : decode cX2_phaseToBe 107 = .ok (.ireturn, 1) := by decide +kernel
theorem dX2_phaseToBe_108 : decode cX2_phaseToBe 108 = .ok (.iload_n 2, 1) := by decide +kernel
theorem dX2_phaseToBe_109 : decode cX2_phaseToBe 109 = .ok (.ifCond .ne 7, 3) := by decide +kernel
theorem dX2_phaseToBe_112 : decode cX2_phaseToBe 112 = .ok (.iload_n 3, 1) := by decide +kernel
theorem dX2_phaseToBe_113 : decode cX2_phaseToBe 113 = .ok (.ifCond .ne 7, 3) := by decide +kernel
theorem dX2_phaseToBe_116 : decode cX2_phaseToBe 116 = .ok (.iconst 0, 1) := by decide +kernel
theorem dX2_phaseToBe_117 : decode cX2_phaseToBe 117 = .ok (.goto 4, 3) := by decide +kernel
theorem dX2_phaseToBe_120 : decode cX2_phaseToBe 120 = .ok (.iconst 2, 1) := by decide +kernel
theorem dX2_phaseToBe_121 : decode cX2_phaseToBe 121 = .ok (.ireturn, 1) := by decide +kernel
theorem dX2_phaseAbove_0 : decode cX2_phaseAbove 0 = .ok (.aload_n 0, 1) := by decide +kernel
theorem dX2_phaseAbove_1 : decode cX2_phaseAbove 1 = .ok (.getfield 9, 3) := by decide +kernel
theorem dX2_phaseAbove_4 : decode cX2_phaseAbove 4 = .ok (.getfield 21, 3) := by decide +kernel
theorem dX2_phaseAbove_7 : decode cX2_phaseAbove 7 = .ok (.iload_n 1, 1) := by decide +kernel
theorem dX2_phaseAbove_8 : decode cX2_phaseAbove 8 = .ok (.aaload, 1) := by decide +kernel
theorem dX2_phaseAbove_9 : decode cX2_phaseAbove 9 = .ok (.iconst 1, 1) := by decide +kernel
theorem dX2_phaseAbove_10 : decode cX2_phaseAbove 10 = .ok (.iaload, 1) := by decide +kernel
theorem dX2_phaseAbove_11 : decode cX2_phaseAbove 11 = .ok (.istore_n 2, 1) := by decide +kernel
theorem dX2_phaseAbove_12 : decode cX2_phaseAbove 12 = .ok (.iload_n 2, 1) := by decide +kernel
theorem dX2_phaseAbove_13 : decode cX2_phaseAbove 13 = .ok (.iconst (-1), 1) := by decide +kernel
theorem dX2_phaseAbove_14 : decode cX2_phaseAbove 14 = .ok (.if_icmp .ne 7, 3) := by decide +kernel
theorem dX2_phaseAbove_17 : decode cX2_phaseAbove 17 = .ok (.iconst 0, 1) := by decide +kernel
theorem dX2_phaseAbove_18 : decode cX2_phaseAbove 18 = .ok (.goto 14, 3) := by decide +kernel
theorem dX2_phaseAbove_21 : decode cX2_phaseAbove 21 = .ok (.aload_n 0, 1) := by decide +kernel
theorem dX2_phaseAbove_22 : decode cX2_phaseAbove 22 = .ok (.getfield 9, 3) := by decide +kernel
theorem dX2_phaseAbove_25 : decode cX2_phaseAbove 25 = .ok (.getfield 21, 3) := by decide +kernel
theorem dX2_phaseAbove_28 : decode cX2_phaseAbove 28 = .ok (.iload_n 2, 1) := by decide +kernel
theorem dX2_phaseAbove_29 : decode cX2_phaseAbove 29 = .ok (.aaload, 1) := by decide +kernel
theorem dX2_phaseAbove_30 : decode cX2_phaseAbove 30 = .ok (.iconst 2, 1) := by decide +kernel
theorem dX2_phaseAbove_31 : decode cX2_phaseAbove 31 = .ok (.iaload, 1) := by decide +kernel
theorem dX2_phaseAbove_32 : decode cX2_phaseAbove 32 = .ok (.ireturn, 1) := by decide +kernel
set_option maxRecDepth 20000 in
theorem ggX2_areChildren_X5_has : GoodIn wsX2_areChildren wsX5_has := goodIn_r _ [8] (by decide +kernel) (by decide +kernel)
set_option maxRecDepth 20000 in
theorem gX2_areChildren_X5_has_n116 : GoodIn wsX2_areChildren (wsX5_has) := ggX2_areChildren_X5_has
theorem dX2_areChildren_0 : decode cX2_areChildren 0 = .ok (.iconst 0, 1) := by decide +kernel
theorem dX2_areChildren_1 : decode cX2_areChildren 1 = .ok (.istore_n 3, 1) := by decide +kernel
theorem dX2_areChildren_2 : decode cX2_areChildren 2 = .ok (.iload_n 3, 1) := by decide +kernel
theorem dX2_areChildren_3 : decode cX2_areChildren 3 = .ok (.aload_n 0, 1) := by decide +kernel
theorem dX2_areChildren_4 : decode cX2_areChildren 4 = .ok (.getfield 100, 3) := by decide +kernel
theorem dX2_areChildren_7 : decode cX2_areChildren 7 = .ok (.getfield 110, 3) := by decide +kernel
theorem dX2_areChildren_10 : decode cX2_areChildren 10 = .ok (.if_icmp .ge 42, 3) := by decide +kernel
theorem dX2_areChildren_13 : decode cX2_areChildren 13 = .ok (.aload_n 0, 1) := by decide +kernel
theorem dX2_areChildren_14 : decode cX2_areChildren 14 = .ok (.getfield 9, 3) := by decide +kernel
theorem dX2_areChildren_17 : decode cX2_areChildren 17 = .ok (.getfield 131, 3) := by decide +kernel
theorem dX2_areChildren_20 : decode cX2_areChildren 20 = .ok (.iload_n 1, 1) := by decide +kernel
theorem dX2_areChildren_21 : decode cX2_areChildren 21 = .ok (.iaload, 1) := by decide +kernel
theorem dX2_areChildren_22 : decode cX2_areChildren 22 = .ok (.iload_n 3, 1) := by decide +kernel
theorem dX2_areChildren_23 : decode cX2_areChildren 23 = .ok (.invokestatic 116, 3) := by decide +kernel
theorem dX2_areChildren_26 : decode cX2_areChildren 26 = .ok (.ifCond .eq 20, 3) := by decide +kernel
theorem dX2_areChildren_29 : decode cX2_areChildren 29 = .ok (.aload_n 0, 1) := by decide +kernel
theorem dX2_areChildren_30 : decode cX2_areChildren 30 = .ok (.getfield 9, 3) := by decide +kernel
theorem dX2_areChildren_33 : decode cX2_areChildren 33 = .ok (.getfield 21, 3) := by decide +kernel
theorem dX2_areChildren_36 : decode cX2_areChildren 36 = .ok (.iload_n 3, 1) := by decide +kernel
theorem dX2_areChildren_37 : decode cX2_areChildren 37 = .ok (.aaload, 1) := by decide +kernel
theorem dX2_areChildren_38 : decode cX2_areChildren 38 = .ok (.iconst 2, 1) := by decide +kernel
theorem dX2_areChildren_39 : decode cX2_areChildren 39 = .ok (.iaload, 1) := by decide +kernel
theorem dX2_areChildren_40 : decode cX2_areChildren 40 = .ok (.iload_n 2, 1) := by decide +kernel
theorem dX2_areChildren_41 : decode cX2_areChildren 41 = .ok (.if_icmp .eq 5, 3) := by decide +kernel
theorem dX2_areChildren_44 : decode cX2_areChildren 44 = .ok (.iconst 0, 1) := by decide +kernel
theorem dX2_areChildren_45 : decode cX2_areChildren 45 = .ok (.ireturn, 1) := by decide +kernel
theorem dX2_areChildren_46 : decode cX2_areChildren 46 = .ok (.iinc 3 1, 3) := by decide +kernel
theorem dX2_areChildren_49 : decode cX2_areChildren 49 = .ok (.goto (-47), 3) := by decide +kernel
theorem dX2_areChildren_52 : decode cX2_areChildren 52 = .ok (.iconst 1, 1) := by decide +kernel
theorem dX2_areChildren_53 : decode cX2_areChildren 53 = .ok (.ireturn, 1) := by decide +kernel
set_option maxRecDepth 20000 in
theorem ggX2_sumToBe_X5_has : GoodIn wsX2_sumToBe wsX5_has := goodIn_r _ [8] (by decide +kernel) (by decide +kernel)
set_option maxRecDepth 20000 in
theorem gX2_sumToBe_X5_has_n116 : GoodIn wsX2_sumToBe (wsX5_has) := ggX2_sumToBe_X5_has
theorem dX2_sumToBe_0 : decode cX2_sumToBe 0 = .ok (.aload_n 0, 1) := by decide +kernel
theorem dX2_sumToBe_1 : decode cX2_sumToBe 1 = .ok (.getfield 9, 3) := by decide +kernel
theorem dX2_sumToBe_4 : decode cX2_sumToBe 4 = .ok (.getfield 21, 3) := by decide +kernel
theorem dX2_sumToBe_7 : decode cX2_sumToBe 7 = .ok (.iload_n 1, 1) := by decide +kernel
theorem dX2_sumToBe_8 : decode cX2_sumToBe 8 = .ok (.aaload, 1) := by decide +kernel
theorem dX2_sumToBe_9 : decode cX2_sumToBe 9 = .ok (.iconst 4, 1) := by decide +kernel
theorem dX2_sumToBe_10 : decode cX2_sumToBe 10 = .ok (.iaload, 1) := by decide +kernel
theorem dX2_sumToBe_11 : decode cX2_sumToBe 11 = .ok (.istore_n 2, 1) := by decide +kernel
theorem dX2_sumToBe_12 : decode cX2_sumToBe 12 = .ok (.iconst 0, 1) := by decide +kernel
theorem dX2_sumToBe_13 : decode cX2_sumToBe 13 = .ok (.istore_n 3, 1) := by decide +kernel
theorem dX2_sumToBe_14 : decode cX2_sumToBe 14 = .ok (.iload_n 3, 1) := by decide +kernel
theorem dX2_sumToBe_15 : decode cX2_sumToBe 15 = .ok (.aload_n 0, 1) := by decide +kernel
theorem dX2_sumToBe_16 : decode cX2_sumToBe 16 = .ok (.getfield 100, 3) := by decide +kernel
theorem dX2_sumToBe_19 : decode cX2_sumToBe 19 = .ok (.getfield 110, 3) := by decide +kernel
theorem dX2_sumToBe_22 : decode cX2_sumToBe 22 = .ok (.if_icmp .ge 39, 3) := by decide +kernel
theorem dX2_sumToBe_25 : decode cX2_sumToBe 25 = .ok (.aload_n 0, 1) := by decide +kernel
theorem dX2_sumToBe_26 : decode cX2_sumToBe 26 = .ok (.getfield 9, 3) := by decide +kernel
theorem dX2_sumToBe_29 : decode cX2_sumToBe 29 = .ok (.getfield 131, 3) := by decide +kernel
theorem dX2_sumToBe_32 : decode cX2_sumToBe 32 = .ok (.iload_n 1, 1) := by decide +kernel
theorem dX2_sumToBe_33 : decode cX2_sumToBe 33 = .ok (.iaload, 1) := by decide +kernel
theorem dX2_sumToBe_34 : decode cX2_sumToBe 34 = .ok (.iload_n 3, 1) := by decide +kernel
theorem dX2_sumToBe_35 : decode cX2_sumToBe 35 = .ok (.invokestatic 116, 3) := by decide +kernel
theorem dX2_sumToBe_38 : decode cX2_sumToBe 38 = .ok (.ifCond .eq 17, 3) := by decide +kernel
theorem dX2_sumToBe_41 : decode cX2_sumToBe 41 = .ok (.iload_n 2, 1) := by decide +kernel
theorem dX2_sumToBe_42 : decode cX2_sumToBe 42 = .ok (.aload_n 0, 1) := by decide +kernel
theorem dX2_sumToBe_43 : decode cX2_sumToBe 43 = .ok (.getfield 9, 3) := by decide +kernel
theorem dX2_sumToBe_46 : decode cX2_sumToBe 46 = .ok (.getfield 21, 3) := by decide +kernel
theorem dX2_sumToBe_49 : decode cX2_sumToBe 49 = .ok (.iload_n 3, 1) := by decide +kernel
theorem dX2_sumToBe_50 : decode cX2_sumToBe 50 = .ok (.aaload, 1) := by decide +kernel
theorem dX2_sumToBe_51 : decode cX2_sumToBe 51 = .ok (.iconst 3, 1) := by decide +kernel
theorem dX2_sumToBe_52 : decode cX2_sumToBe 52 = .ok (.iaload, 1) := by decide +kernel
theorem dX2_sumToBe_53 : decode cX2_sumToBe 53 = .ok (.iadd, 1) := by decide +kernel
theorem dX2_sumToBe_54 : decode cX2_sumToBe 54 = .ok (.istore_n 2, 1) := by decide +kernel
theorem dX2_sumToBe_55 : decode cX2_sumToBe 55 = .ok (.iinc 3 1, 3) := by decide +kernel
theorem dX2_sumToBe_58 : decode cX2_sumToBe 58 = .ok (.goto (-44), 3) := by decide +kernel
theorem dX2_sumToBe_61 : decode cX2_sumToBe 61 = .ok (.iload_n 2, 1) := by decide +kernel
theorem dX2_sumToBe_62 : decode cX2_sumToBe 62 = .ok (.ireturn, 1) := by decide +kernel
set_option maxRecDepth 20000 in
theorem ggX2_rightsOf_X5_has : GoodIn wsX2_rightsOf wsX5_has := goodIn_r _ [8] (by decide +kernel) (by decide +kernel)
set_option maxRecDepth 20000 in
theorem gX2_rightsOf_X5_has_n116 : GoodIn wsX2_rightsOf (wsX5_has) := ggX2_rightsOf_X5_has
set_option maxRecDepth 20000 in
theorem ggX2_rightsOf_X2_xBefore : GoodIn wsX2_rightsOf wsX2_xBefore := goodIn_r _ [12, 3, 4, 5, 13, 7, 14, 15, 16, 20, 21, 22, 23, 24, 25, 26, 27, 28, 32, 33, 34, 35] (by decide +kernel) (by decide +kernel)
set_option maxRecDepth 20000 in
theorem gX2_rightsOf_X2_xBefore : GoodIn wsX2_rightsOf (va_wsS RX2 93 yX2_xBefore wsX2_xBefore) := goodIn_app (goodIn_of _ (by decide +kernel)) ggX2_rightsOf_X2_xBefore
set_option maxRecDepth 20000 in
theorem ggX2_rightsOf_X2_isBottom : GoodIn wsX2_rightsOf wsX2_isBottom := goodIn_r _ [19, 3, 4, 13, 7, 14, 20, 21, 22, 23, 24, 25, 26, 27, 28, 32, 33, 34, 35] (by decide +kernel) (by decide +kernel)
set_option maxRecDepth 20000 in
theorem gX2_rightsOf_X2_isBottom : GoodIn wsX2_rightsOf (va_wsS RX2 96 yX2_isBottom wsX2_isBottom) := goodIn_app (goodIn_of _ (by decide +kernel)) ggX2_rightsOf_X2_isBottom
theorem dX2_rightsOf_0 : decode cX2_rightsOf 0 = .ok (.iconst 0, 1) := by decide +kernel
theorem dX2_rightsOf_1 : decode cX2_rightsOf 1 = .ok (.istore_n 2, 1) := by decide +kernel
theorem dX2_rightsOf_2 : decode cX2_rightsOf 2 = .ok (.iconst 0, 1) := by decide +kernel
theorem dX2_rightsOf_3 : decode cX2_rightsOf 3 = .ok (.istore_n 3, 1) := by decide +kernel
theorem dX2_rightsOf_4 : decode cX2_rightsOf 4 = .ok (.iload_n 3, 1) := by decide +kernel
theorem dX2_rightsOf_5 : decode cX2_rightsOf 5 = .ok (.aload_n 0, 1) := by decide +kernel
theorem dX2_rightsOf_6 : decode cX2_rightsOf 6 = .ok (.getfield 100, 3) := by decide +kernel
theorem dX2_rightsOf_9 : decode cX2_rightsOf 9 = .ok (.getfield 110, 3) := by decide +kernel
theorem dX2_rightsOf_12 : decode cX2_rightsOf 12 = .ok (.if_icmp .ge 71, 3) := by decide +kernel
theorem dX2_rightsOf_15 : decode cX2_rightsOf 15 = .ok (.aload_n 0, 1) := by decide +kernel
theorem dX2_rightsOf_16 : decode cX2_rightsOf 16 = .ok (.getfield 9, 3) := by decide +kernel
theorem dX2_rightsOf_19 : decode cX2_rightsOf 19 = .ok (.getfield 134, 3) := by decide +kernel
theorem dX2_rightsOf_22 : decode cX2_rightsOf 22 = .ok (.iload_n 1, 1) := by decide +kernel
theorem dX2_rightsOf_23 : decode cX2_rightsOf 23 = .ok (.iaload, 1) := by decide +kernel
theorem dX2_rightsOf_24 : decode cX2_rightsOf 24 = .ok (.iload_n 3, 1) := by decide +kernel
theorem dX2_rightsOf_25 : decode cX2_rightsOf 25 = .ok (.invokestatic 116, 3) := by decide +kernel
theorem dX2_rightsOf_28 : decode cX2_rightsOf 28 = .ok (.ifCond .eq 49, 3) := by decide +kernel
theorem dX2_rightsOf_31 : decode cX2_rightsOf 31 = .ok (.aload_n 0, 1) := by decide +kernel
theorem dX2_rightsOf_32 : decode cX2_rightsOf 32 = .ok (.getfield 9, 3) := by decide +kernel
theorem dX2_rightsOf_35 : decode cX2_rightsOf 35 = .ok (.getfield 21, 3) := by decide +kernel
theorem dX2_rightsOf_38 : decode cX2_rightsOf 38 = .ok (.iload_n 1, 1) := by decide +kernel
theorem dX2_rightsOf_39 : decode cX2_rightsOf 39 = .ok (.aaload, 1) := by decide +kernel
theorem dX2_rightsOf_40 : decode cX2_rightsOf 40 = .ok (.iconst 5, 1) := by decide +kernel
theorem dX2_rightsOf_41 : decode cX2_rightsOf 41 = .ok (.iload_n 3, 1) := by decide +kernel
theorem dX2_rightsOf_42 : decode cX2_rightsOf 42 = .ok (.iadd, 1) := by decide +kernel
theorem dX2_rightsOf_43 : decode cX2_rightsOf 43 = .ok (.iaload, 1) := by decide +kernel
theorem dX2_rightsOf_44 : decode cX2_rightsOf 44 = .ok (.aload_n 0, 1) := by decide +kernel
theorem dX2_rightsOf_45 : decode cX2_rightsOf 45 = .ok (.iload_n 1, 1) := by decide +kernel
theorem dX2_rightsOf_46 : decode cX2_rightsOf 46 = .ok (.iload_n 3, 1) := by decide +kernel
theorem dX2_rightsOf_47 : decode cX2_rightsOf 47 = .ok (.invokestatic 93, 3) := by decide +kernel
theorem dX2_rightsOf_50 : decode cX2_rightsOf 50 = .ok (.if_icmp .ne 7, 3) := by decide +kernel
theorem dX2_rightsOf_53 : decode cX2_rightsOf 53 = .ok (.iconst 1, 1) := by decide +kernel
theorem dX2_rightsOf_54 : decode cX2_rightsOf 54 = .ok (.goto 4, 3) := by decide +kernel
theorem dX2_rightsOf_57 : decode cX2_rightsOf 57 = .ok (.iconst 0, 1) := by decide +kernel
theorem dX2_rightsOf_58 : decode cX2_rightsOf 58 = .ok (.istore 4, 2) := by decide +kernel
theorem dX2_rightsOf_60 : decode cX2_rightsOf 60 = .ok (.iload 4, 2) := by decide +kernel
theorem dX2_rightsOf_62 : decode cX2_rightsOf 62 = .ok (.aload_n 0, 1) := by decide +kernel
theorem dX2_rightsOf_63 : decode cX2_rightsOf 63 = .ok (.iload_n 1, 1) := by decide +kernel
theorem dX2_rightsOf_64 : decode cX2_rightsOf 64 = .ok (.iload_n 3, 1) := by decide +kernel
theorem dX2_rightsOf_65 : decode cX2_rightsOf 65 = .ok (.invokestatic 96, 3) := by decide +kernel
theorem dX2_rightsOf_68 : decode cX2_rightsOf 68 = .ok (.if_icmp .ne 9, 3) := by decide +kernel
theorem dX2_rightsOf_71 : decode cX2_rightsOf 71 = .ok (.iload_n 2, 1) := by decide +kernel
theorem dX2_rightsOf_72 : decode cX2_rightsOf 72 = .ok (.iconst 1, 1) := by decide +kernel
theorem dX2_rightsOf_73 : decode cX2_rightsOf 73 = .ok (.iload_n 3, 1) := by decide +kernel
theorem dX2_rightsOf_74 : decode cX2_rightsOf 74 = .ok (.ishl, 1) := by decide +kernel
theorem dX2_rightsOf_75 : decode cX2_rightsOf 75 = .ok (.ior, 1) := by decide +kernel
theorem dX2_rightsOf_76 : decode cX2_rightsOf 76 = .ok (.istore_n 2, 1) := by decide +kernel
theorem dX2_rightsOf_77 : decode cX2_rightsOf 77 = .ok (.iinc 3 1, 3) := by decide +kernel
theorem dX2_rightsOf_80 : decode cX2_rightsOf 80 = .ok (.goto (-76), 3) := by decide +kernel
theorem dX2_rightsOf_83 : decode cX2_rightsOf 83 = .ok (.iload_n 2, 1) := by decide +kernel
theorem dX2_rightsOf_84 : decode cX2_rightsOf 84 = .ok (.ireturn, 1) := by decide +kernel
set_option maxRecDepth 20000 in
theorem ggX2_rightsInAll_X2_rightsOf : GoodIn wsX2_rightsInAll wsX2_rightsOf := goodIn_r _ [6, 1, 2, 7, 8, 9, 10, 11, 12, 13, 14, 5, 15, 16, 17, 18, 19, 20, 21, 22, 30, 31, 32, 33, 34, 35, 36, 37, 38, 39, 40, 41, 42, 43, 44, 45] (by decide +kernel) (by decide +kernel)
set_option maxRecDepth 20000 in
theorem gX2_rightsInAll_X2_rightsOf : GoodIn wsX2_rightsInAll (va_wsS RX2 38 yX2_rightsOf wsX2_rightsOf) := goodIn_app (goodIn_of _ (by decide +kernel)) ggX2_rightsInAll_X2_rightsOf
set_option maxRecDepth 20000 in
theorem ggX2_rightsInAll_J6_bitCount_0f7a4 : GoodIn wsX2_rightsInAll wsJ6_bitCount_0f7a4 := goodIn_r _ [26, 27, 28, 29] (by decide +kernel) (by decide +kernel)
set_option maxRecDepth 20000 in
theorem gX2_rightsInAll_J6_bitCount_0f7a4 : GoodIn wsX2_rightsInAll (va_wsS RX2 137 yJ6_bitCount_0f7a4 wsJ6_bitCount_0f7a4) := goodIn_app (goodIn_of _ (by decide +kernel)) ggX2_rightsInAll_J6_bitCount_0f7a4
theorem dX2_rightsInAll_0 : decode cX2_rightsInAll 0 = .ok (.iconst 0, 1) := by decide +kernel
theorem dX2_rightsInAll_1 : decode cX2_rightsInAll 1 = .ok (.istore_n 1, 1) := by decide +kernel
theorem dX2_rightsInAll_2 : decode cX2_rightsInAll 2 = .ok (.iconst 0, 1) := by decide +kernel
theorem dX2_rightsInAll_3 : decode cX2_rightsInAll 3 = .ok (.istore_n 2, 1) := by decide +kernel
theorem dX2_rightsInAll_4 : decode cX2_rightsInAll 4 = .ok (.iload_n 2, 1) := by decide +kernel
theorem dX2_rightsInAll_5 : decode cX2_rightsInAll 5 = .ok (.aload_n 0, 1) := by decide +kernel
theorem dX2_rightsInAll_6 : decode cX2_rightsInAll 6 = .ok (.getfield 100, 3) := by decide +kernel
theorem dX2_rightsInAll_9 : decode cX2_rightsInAll 9 = .ok (.getfield 110, 3) := by decide +kernel
theorem dX2_rightsInAll_12 : decode cX2_rightsInAll 12 = .ok (.if_icmp .ge 20, 3) := by decide +kernel
theorem dX2_rightsInAll_15 : decode cX2_rightsInAll 15 = .ok (.iload_n 1, 1) := by decide +kernel
theorem dX2_rightsInAll_16 : decode cX2_rightsInAll 16 = .ok (.aload_n 0, 1) := by decide +kernel
theorem dX2_rightsInAll_17 : decode cX2_rightsInAll 17 = .ok (.iload_n 2, 1) := by decide +kernel
theorem dX2_rightsInAll_18 : decode cX2_rightsInAll 18 = .ok (.invokestatic 38, 3) := by decide +kernel
theorem dX2_rightsInAll_21 : decode cX2_rightsInAll 21 = .ok (.invokestatic 137, 3) := by decide +kernel
theorem dX2_rightsInAll_24 : decode cX2_rightsInAll 24 = .ok (.iadd, 1) := by decide +kernel
theorem dX2_rightsInAll_25 : decode cX2_rightsInAll 25 = .ok (.istore_n 1, 1) := by decide +kernel
theorem dX2_rightsInAll_26 : decode cX2_rightsInAll 26 = .ok (.iinc 2 1, 3) := by decide +kernel
theorem dX2_rightsInAll_29 : decode cX2_rightsInAll 29 = .ok (.goto (-25), 3) := by decide +kernel
theorem dX2_rightsInAll_32 : decode cX2_rightsInAll 32 = .ok (.iload_n 1, 1) := by decide +kernel
theorem dX2_rightsInAll_33 : decode cX2_rightsInAll 33 = .ok (.ireturn, 1) := by decide +kernel
set_option maxRecDepth 20000 in
theorem ggX2_isBottom_X5_below : GoodIn wsX2_isBottom wsX5_below := goodIn_r _ [5] (by decide +kernel) (by decide +kernel)
set_option maxRecDepth 20000 in
theorem gX2_isBottom_X5_below_n143 : GoodIn wsX2_isBottom (wsX5_below) := ggX2_isBottom_X5_below
theorem dX2_isBottom_0 : decode cX2_isBottom 0 = .ok (.iload_n 1, 1) := by decide +kernel
theorem dX2_isBottom_1 : decode cX2_isBottom 1 = .ok (.ifCond .ne 24, 3) := by decide +kernel
theorem dX2_isBottom_4 : decode cX2_isBottom 4 = .ok (.aload_n 0, 1) := by decide +kernel
theorem dX2_isBottom_5 : decode cX2_isBottom 5 = .ok (.getfield 9, 3) := by decide +kernel
theorem dX2_isBottom_8 : decode cX2_isBottom 8 = .ok (.getfield 134, 3) := by decide +kernel
theorem dX2_isBottom_11 : decode cX2_isBottom 11 = .ok (.iload_n 1, 1) := by decide +kernel
theorem dX2_isBottom_12 : decode cX2_isBottom 12 = .ok (.iaload, 1) := by decide +kernel
theorem dX2_isBottom_13 : decode cX2_isBottom 13 = .ok (.iload_n 2, 1) := by decide +kernel
theorem dX2_isBottom_14 : decode cX2_isBottom 14 = .ok (.invokestatic 143, 3) := by decide +kernel
theorem dX2_isBottom_17 : decode cX2_isBottom 17 = .ok (.iand, 1) := by decide +kernel
theorem dX2_isBottom_18 : decode cX2_isBottom 18 = .ok (.ifCond .ne 7, 3) := by decide +kernel
theorem dX2_isBottom_21 : decode cX2_isBottom 21 = .ok (.iconst 1, 1) := by decide +kernel
theorem dX2_isBottom_22 : decode cX2_isBottom 22 = .ok (.goto 4, 3) := by decide +kernel
theorem dX2_isBottom_25 : decode cX2_isBottom 25 = .ok (.iconst 0, 1) := by decide +kernel
theorem dX2_isBottom_26 : decode cX2_isBottom 26 = .ok (.ireturn, 1) := by decide +kernel
set_option maxRecDepth 20000 in
theorem ggX2_xBefore_X5_below : GoodIn wsX2_xBefore wsX5_below := goodIn_r _ [6] (by decide +kernel) (by decide +kernel)
set_option maxRecDepth 20000 in
theorem gX2_xBefore_X5_below_n143 : GoodIn wsX2_xBefore (wsX5_below) := ggX2_xBefore_X5_below
set_option maxRecDepth 20000 in
theorem ggX2_xBefore_X5_greatest : GoodIn wsX2_xBefore wsX5_greatest := goodIn_r _ [8] (by decide +kernel) (by decide +kernel)
set_option maxRecDepth 20000 in
theorem gX2_xBefore_X5_greatest_n146 : GoodIn wsX2_xBefore (wsX5_greatest) := ggX2_xBefore_X5_greatest
theorem dX2_xBefore_0 : decode cX2_xBefore 0 = .ok (.aload_n 0, 1) := by decide +kernel
theorem dX2_xBefore_1 : decode cX2_xBefore 1 = .ok (.getfield 9, 3) := by decide +kernel
theorem dX2_xBefore_4 : decode cX2_xBefore 4 = .ok (.getfield 134, 3) := by decide +kernel
theorem dX2_xBefore_7 : decode cX2_xBefore 7 = .ok (.iload_n 1, 1) := by decide +kernel
theorem dX2_xBefore_8 : decode cX2_xBefore 8 = .ok (.iaload, 1) := by decide +kernel
theorem dX2_xBefore_9 : decode cX2_xBefore 9 = .ok (.istore_n 3, 1) := by decide +kernel
theorem dX2_xBefore_10 : decode cX2_xBefore 10 = .ok (.iload_n 3, 1) := by decide +kernel
theorem dX2_xBefore_11 : decode cX2_xBefore 11 = .ok (.iload_n 2, 1) := by decide +kernel
theorem dX2_xBefore_12 : decode cX2_xBefore 12 = .ok (.invokestatic 143, 3) := by decide +kernel
theorem dX2_xBefore_15 : decode cX2_xBefore 15 = .ok (.iand, 1) := by decide +kernel
theorem dX2_xBefore_16 : decode cX2_xBefore 16 = .ok (.istore 4, 2) := by decide +kernel
theorem dX2_xBefore_18 : decode cX2_xBefore 18 = .ok (.iload 4, 2) := by decide +kernel
theorem dX2_xBefore_20 : decode cX2_xBefore 20 = .ok (.ifCond .ne 7, 3) := by decide +kernel
theorem dX2_xBefore_23 : decode cX2_xBefore 23 = .ok (.iload_n 3, 1) := by decide +kernel
theorem dX2_xBefore_24 : decode cX2_xBefore 24 = .ok (.goto 5, 3) := by decide +kernel
theorem dX2_xBefore_27 : decode cX2_xBefore 27 = .ok (.iload 4, 2) := by decide +kernel
theorem dX2_xBefore_29 : decode cX2_xBefore 29 = .ok (.invokestatic 146, 3) := by decide +kernel
theorem dX2_xBefore_32 : decode cX2_xBefore 32 = .ok (.istore 5, 2) := by decide +kernel
theorem dX2_xBefore_34 : decode cX2_xBefore 34 = .ok (.iload 5, 2) := by decide +kernel
theorem dX2_xBefore_36 : decode cX2_xBefore 36 = .ok (.iconst (-1), 1) := by decide +kernel
theorem dX2_xBefore_37 : decode cX2_xBefore 37 = .ok (.if_icmp .ne 7, 3) := by decide +kernel
theorem dX2_xBefore_40 : decode cX2_xBefore 40 = .ok (.iconst 0, 1) := by decide +kernel
theorem dX2_xBefore_41 : decode cX2_xBefore 41 = .ok (.goto 17, 3) := by decide +kernel
theorem dX2_xBefore_44 : decode cX2_xBefore 44 = .ok (.aload_n 0, 1) := by decide +kernel
theorem dX2_xBefore_45 : decode cX2_xBefore 45 = .ok (.getfield 9, 3) := by decide +kernel
theorem dX2_xBefore_48 : decode cX2_xBefore 48 = .ok (.getfield 21, 3) := by decide +kernel
theorem dX2_xBefore_51 : decode cX2_xBefore 51 = .ok (.iload 5, 2) := by decide +kernel
theorem dX2_xBefore_53 : decode cX2_xBefore 53 = .ok (.aaload, 1) := by decide +kernel
theorem dX2_xBefore_54 : decode cX2_xBefore 54 = .ok (.iconst 5, 1) := by decide +kernel
theorem dX2_xBefore_55 : decode cX2_xBefore 55 = .ok (.iload_n 1, 1) := by decide +kernel
theorem dX2_xBefore_56 : decode cX2_xBefore 56 = .ok (.iadd, 1) := by decide +kernel
theorem dX2_xBefore_57 : decode cX2_xBefore 57 = .ok (.iaload, 1) := by decide +kernel
theorem dX2_xBefore_58 : decode cX2_xBefore 58 = .ok (.ireturn, 1) := by decide +kernel
set_option maxRecDepth 20000 in
theorem ggX3_init_X3_measure : GoodIn wsX3_init wsX3_measure := goodIn_r _ [12, 7, 4, 6, 13, 14, 15, 16, 17, 18, 19, 20, 21, 22] (by decide +kernel) (by decide +kernel)
set_option maxRecDepth 20000 in
theorem gX3_init_X3_measure : GoodIn wsX3_init (wsV RX3 22 RX3 yX3_measure wsX3_measure) := goodIn_app (goodIn_of _ (by decide +kernel)) ggX3_init_X3_measure
theorem dX3_init_0 : decode cX3_init 0 = .ok (.aload_n 0, 1) := by decide +kernel
theorem dX3_init_1 : decode cX3_init 1 = .ok (.invokespecial 3, 3) := by decide +kernel
theorem dX3_init_4 : decode cX3_init 4 = .ok (.aload_n 0, 1) := by decide +kernel
theorem dX3_init_5 : decode cX3_init 5 = .ok (.iconst 2, 1) := by decide +kernel
theorem dX3_init_6 : decode cX3_init 6 = .ok (.putfield 9, 3) := by decide +kernel
theorem dX3_init_9 : decode cX3_init 9 = .ok (.aload_n 0, 1) := by decide +kernel
theorem dX3_init_10 : decode cX3_init 10 = .ok (.bipush 12, 2) := by decide +kernel
theorem dX3_init_12 : decode cX3_init 12 = .ok (.newarray .int, 2) := by decide +kernel
theorem dX3_init_14 : decode cX3_init 14 = .ok (.putfield 15, 3) := by decide +kernel
theorem dX3_init_17 : decode cX3_init 17 = .ok (.aload_n 0, 1) := by decide +kernel
theorem dX3_init_18 : decode cX3_init 18 = .ok (.bipush 12, 2) := by decide +kernel
theorem dX3_init_20 : decode cX3_init 20 = .ok (.newarray .int, 2) := by decide +kernel
theorem dX3_init_22 : decode cX3_init 22 = .ok (.putfield 19, 3) := by decide +kernel
theorem dX3_init_25 : decode cX3_init 25 = .ok (.aload_n 0, 1) := by decide +kernel
theorem dX3_init_26 : decode cX3_init 26 = .ok (.invokevirtual 22, 3) := by decide +kernel
theorem dX3_init_29 : decode cX3_init 29 = .ok (.return_, 1) := by decide +kernel
set_option maxRecDepth 20000 in
theorem ggX3_clear_J7_fill_53178 : GoodIn wsX3_clear wsJ7_fill_53178 := goodIn_r _ [6] (by decide +kernel) (by decide +kernel)
set_option maxRecDepth 20000 in
theorem gX3_clear_J7_fill_53178 : GoodIn wsX3_clear (va_wsS RX3 25 yJ7_fill_53178 wsJ7_fill_53178) := goodIn_app (goodIn_of _ (by decide +kernel)) ggX3_clear_J7_fill_53178
set_option maxRecDepth 20000 in
theorem ggX3_clear_X3_measure : GoodIn wsX3_clear wsX3_measure := goodIn_r _ [11, 12, 1, 2, 3, 4, 5, 6, 13, 14, 15, 16, 17, 18] (by decide +kernel) (by decide +kernel)
set_option maxRecDepth 20000 in
theorem gX3_clear_X3_measure : GoodIn wsX3_clear (wsV RX3 22 RX3 yX3_measure wsX3_measure) := goodIn_app (goodIn_of _ (by decide +kernel)) ggX3_clear_X3_measure
theorem dX3_clear_0 : decode cX3_clear 0 = .ok (.aload_n 0, 1) := by decide +kernel
theorem dX3_clear_1 : decode cX3_clear 1 = .ok (.iload_n 1, 1) := by decide +kernel
theorem dX3_clear_2 : decode cX3_clear 2 = .ok (.putfield 9, 3) := by decide +kernel
theorem dX3_clear_5 : decode cX3_clear 5 = .ok (.aload_n 0, 1) := by decide +kernel
theorem dX3_clear_6 : decode cX3_clear 6 = .ok (.getfield 15, 3) := by decide +kernel
theorem dX3_clear_9 : decode cX3_clear 9 = .ok (.iconst 0, 1) := by decide +kernel
theorem dX3_clear_10 : decode cX3_clear 10 = .ok (.invokestatic 25, 3) := by decide +kernel
theorem dX3_clear_13 : decode cX3_clear 13 = .ok (.aload_n 0, 1) := by decide +kernel
theorem dX3_clear_14 : decode cX3_clear 14 = .ok (.invokevirtual 22, 3) := by decide +kernel
theorem dX3_clear_17 : decode cX3_clear 17 = .ok (.return_, 1) := by decide +kernel
theorem dX3_copyFrom_0 : decode cX3_copyFrom 0 = .ok (.aload_n 0, 1) := by decide +kernel
theorem dX3_copyFrom_1 : decode cX3_copyFrom 1 = .ok (.aload_n 1, 1) := by decide +kernel
theorem dX3_copyFrom_2 : decode cX3_copyFrom 2 = .ok (.getfield 9, 3) := by decide +kernel
theorem dX3_copyFrom_5 : decode cX3_copyFrom 5 = .ok (.putfield 9, 3) := by decide +kernel
theorem dX3_copyFrom_8 : decode cX3_copyFrom 8 = .ok (.aload_n 1, 1) := by decide +kernel
theorem dX3_copyFrom_9 : decode cX3_copyFrom 9 = .ok (.getfield 15, 3) := by decide +kernel
theorem dX3_copyFrom_12 : decode cX3_copyFrom 12 = .ok (.iconst 0, 1) := by decide +kernel
theorem dX3_copyFrom_13 : decode cX3_copyFrom 13 = .ok (.aload_n 0, 1) := by decide +kernel
theorem dX3_copyFrom_14 : decode cX3_copyFrom 14 = .ok (.getfield 15, 3) := by decide +kernel
theorem dX3_copyFrom_17 : decode cX3_copyFrom 17 = .ok (.iconst 0, 1) := by decide +kernel
theorem dX3_copyFrom_18 : decode cX3_copyFrom 18 = .ok (.bipush 12, 2) := by decide +kernel
theorem dX3_copyFrom_20 : decode cX3_copyFrom 20 = .ok (.invokestatic 31, 3) := by decide +kernel
theorem dX3_copyFrom_23 : decode cX3_copyFrom 23 = .ok (.aload_n 1, 1) := by decide +kernel
theorem dX3_copyFrom_24 : decode cX3_copyFrom 24 = .ok (.getfield 19, 3) := by decide +kernel
theorem dX3_copyFrom_27 : decode cX3_copyFrom 27 = .ok (.iconst 0, 1) := by decide +kernel
theorem dX3_copyFrom_28 : decode cX3_copyFrom 28 = .ok (.aload_n 0, 1) := by decide +kernel
theorem dX3_copyFrom_29 : decode cX3_copyFrom 29 = .ok (.getfield 19, 3) := by decide +kernel
theorem dX3_copyFrom_32 : decode cX3_copyFrom 32 = .ok (.iconst 0, 1) := by decide +kernel
theorem dX3_copyFrom_33 : decode cX3_copyFrom 33 = .ok (.bipush 12, 2) := by decide +kernel
theorem dX3_copyFrom_35 : decode cX3_copyFrom 35 = .ok (.invokestatic 31, 3) := by decide +kernel
theorem dX3_copyFrom_38 : decode cX3_copyFrom 38 = .ok (.return_, 1) := by decide +kernel
theorem dX3_isNode_0 : decode cX3_isNode 0 = .ok (.iload_n 1, 1) := by decide +kernel
theorem dX3_isNode_1 : decode cX3_isNode 1 = .ok (.ifCond .lt 15, 3) := by decide +kernel
theorem dX3_isNode_4 : decode cX3_isNode 4 = .ok (.iload_n 1, 1) := by decide +kernel
theorem dX3_isNode_5 : decode cX3_isNode 5 = .ok (.aload_n 0, 1) := by decide +kernel
theorem dX3_isNode_6 : decode cX3_isNode 6 = .ok (.getfield 9, 3) := by decide +kernel
theorem dX3_isNode_9 : decode cX3_isNode 9 = .ok (.if_icmp .ge 7, 3) := by decide +kernel
theorem dX3_isNode_12 : decode cX3_isNode 12 = .ok (.iconst 1, 1) := by decide +kernel
theorem dX3_isNode_13 : decode cX3_isNode 13 = .ok (.goto 4, 3) := by decide +kernel
theorem dX3_isNode_16 : decode cX3_isNode 16 = .ok (.iconst 0, 1) := by decide +kernel
theorem dX3_isNode_17 : decode cX3_isNode 17 = .ok (.ireturn, 1) := by decide +kernel
set_option maxRecDepth 20000 in
theorem ggX3_join_X3_measure : GoodIn wsX3_join wsX3_measure := goodIn_r _ [6, 7, 8, 1, 9, 10, 11, 12, 13, 14, 15, 16, 17, 18] (by decide +kernel) (by decide +kernel)
set_option maxRecDepth 20000 in
theorem gX3_join_X3_measure : GoodIn wsX3_join (wsV RX3 22 RX3 yX3_measure wsX3_measure) := goodIn_app (goodIn_of _ (by decide +kernel)) ggX3_join_X3_measure
theorem dX3_join_0 : decode cX3_join 0 = .ok (.iload_n 3, 1) := by decide +kernel
theorem dX3_join_1 : decode cX3_join 1 = .ok (.ifCond .eq 30, 3) := by decide +kernel
theorem dX3_join_4 : decode cX3_join 4 = .ok (.aload_n 0, 1) := by decide +kernel
theorem dX3_join_5 : decode cX3_join 5 = .ok (.getfield 15, 3) := by decide +kernel
theorem dX3_join_8 : decode cX3_join 8 = .ok (.iload_n 1, 1) := by decide +kernel
theorem dX3_join_9 : decode cX3_join 9 = .ok (.dup2, 1) := by decide +kernel
theorem dX3_join_10 : decode cX3_join 10 = .ok (.iaload, 1) := by decide +kernel
theorem dX3_join_11 : decode cX3_join 11 = .ok (.iconst 1, 1) := by decide +kernel
theorem dX3_join_12 : decode cX3_join 12 = .ok (.iload_n 2, 1) := by decide +kernel
theorem dX3_join_13 : decode cX3_join 13 = .ok (.ishl, 1) := by decide +kernel
theorem dX3_join_14 : decode cX3_join 14 = .ok (.ior, 1) := by decide +kernel
theorem dX3_join_15 : decode cX3_join 15 = .ok (.iastore, 1) := by decide +kernel
theorem dX3_join_16 : decode cX3_join 16 = .ok (.aload_n 0, 1) := by decide +kernel
theorem dX3_join_17 : decode cX3_join 17 = .ok (.getfield 15, 3) := by decide +kernel
theorem dX3_join_20 : decode cX3_join 20 = .ok (.iload_n 2, 1) := by decide +kernel
theorem dX3_join_21 : decode cX3_join 21 = .ok (.dup2, 1) := by decide +kernel
theorem dX3_join_22 : decode cX3_join 22 = .ok (.iaload, 1) := by decide +kernel
theorem dX3_join_23 : decode cX3_join 23 = .ok (.iconst 1, 1) := by decide +kernel
theorem dX3_join_24 : decode cX3_join 24 = .ok (.iload_n 1, 1) := by decide +kernel
theorem dX3_join_25 : decode cX3_join 25 = .ok (.ishl, 1) := by decide +kernel
theorem dX3_join_26 : decode cX3_join 26 = .ok (.ior, 1) := by decide +kernel
theorem dX3_join_27 : decode cX3_join 27 = .ok (.iastore, 1) := by decide +kernel
theorem dX3_join_28 : decode cX3_join 28 = .ok (.goto 31, 3) := by decide +kernel
theorem dX3_join_31 : decode cX3_join 31 = .ok (.aload_n 0, 1) := by decide +kernel
theorem dX3_join_32 : decode cX3_join 32 = .ok (.getfield 15, 3) := by decide +kernel
theorem dX3_join_35 : decode cX3_join 35 = .ok (.iload_n 1, 1) := by decide +kernel
theorem dX3_join_36 : decode cX3_join 36 = .ok (.dup2, 1) := by decide +kernel
theorem dX3_join_37 : decode cX3_join 37 = .ok (.iaload, 1) := by decide +kernel
theorem dX3_join_38 : decode cX3_join 38 = .ok (.iconst 1, 1) := by decide +kernel
theorem dX3_join_39 : decode cX3_join 39 = .ok (.iload_n 2, 1) := by decide +kernel
theorem dX3_join_40 : decode cX3_join 40 = .ok (.ishl, 1) := by decide +kernel
theorem dX3_join_41 : decode cX3_join 41 = .ok (.iconst (-1), 1) := by decide +kernel
theorem dX3_join_42 : decode cX3_join 42 = .ok (.ixor, 1) := by decide +kernel
theorem dX3_join_43 : decode cX3_join 43 = .ok (.iand, 1) := by decide +kernel
theorem dX3_join_44 : decode cX3_join 44 = .ok (.iastore, 1) := by decide +kernel
theorem dX3_join_45 : decode cX3_join 45 = .ok (.aload_n 0, 1) := by decide +kernel
theorem dX3_join_46 : decode cX3_join 46 = .ok (.getfield 15, 3) := by decide +kernel
theorem dX3_join_49 : decode cX3_join 49 = .ok (.iload_n 2, 1) := by decide +kernel
theorem dX3_join_50 : decode cX3_join 50 = .ok (.dup2, 1) := by decide +kernel
theorem dX3_join_51 : decode cX3_join 51 = .ok (.iaload, 1) := by decide +kernel
theorem dX3_join_52 : decode cX3_join 52 = .ok (.iconst 1, 1) := by decide +kernel
theorem dX3_join_53 : decode cX3_join 53 = .ok (.iload_n 1, 1) := by decide +kernel
theorem dX3_join_54 : decode cX3_join 54 = .ok (.ishl, 1) := by decide +kernel
theorem dX3_join_55 : decode cX3_join 55 = .ok (.iconst (-1), 1) := by decide +kernel
theorem dX3_join_56 : decode cX3_join 56 = .ok (.ixor, 1) := by decide +kernel
theorem dX3_join_57 : decode cX3_join 57 = .ok (.iand, 1) := by decide +kernel
theorem dX3_join_58 : decode cX3_join 58 = .ok (.iastore, 1) := by decide +kernel
theorem dX3_join_59 : decode cX3_join 59 = .ok (.aload_n 0, 1) := by decide +kernel
theorem dX3_join_60 : decode cX3_join 60 = .ok (.invokevirtual 22, 3) := by decide +kernel
theorem dX3_join_63 : decode cX3_join 63 = .ok (.return_, 1) := by decide +kernel
set_option maxRecDepth 20000 in
theorem ggX3_linkCount_J6_bitCount_0f7a4 : GoodIn wsX3_linkCount wsJ6_bitCount_0f7a4 := goodIn_r _ [6, 7, 8, 9] (by decide +kernel) (by decide +kernel)
set_option maxRecDepth 20000 in
theorem gX3_linkCount_J6_bitCount_0f7a4 : GoodIn wsX3_linkCount (va_wsS RX3 37 yJ6_bitCount_0f7a4 wsJ6_bitCount_0f7a4) := goodIn_app (goodIn_of _ (by decide +kernel)) ggX3_linkCount_J6_bitCount_0f7a4
theorem dX3_linkCount_0 : decode cX3_linkCount 0 = .ok (.iconst 0, 1) := by decide +kernel
theorem dX3_linkCount_1 : decode cX3_linkCount 1 = .ok (.istore_n 1, 1) := by decide +kernel
theorem dX3_linkCount_2 : decode cX3_linkCount 2 = .ok (.iconst 0, 1) := by decide +kernel
theorem dX3_linkCount_3 : decode cX3_linkCount 3 = .ok (.istore_n 2, 1) := by decide +kernel
theorem dX3_linkCount_4 : decode cX3_linkCount 4 = .ok (.iload_n 2, 1) := by decide +kernel
theorem dX3_linkCount_5 : decode cX3_linkCount 5 = .ok (.aload_n 0, 1) := by decide +kernel
theorem dX3_linkCount_6 : decode cX3_linkCount 6 = .ok (.getfield 9, 3) := by decide +kernel
theorem dX3_linkCount_9 : decode cX3_linkCount 9 = .ok (.if_icmp .ge 21, 3) := by decide +kernel
theorem dX3_linkCount_12 : decode cX3_linkCount 12 = .ok (.iload_n 1, 1) := by decide +kernel
theorem dX3_linkCount_13 : decode cX3_linkCount 13 = .ok (.aload_n 0, 1) := by decide +kernel
theorem dX3_linkCount_14 : decode cX3_linkCount 14 = .ok (.getfield 15, 3) := by decide +kernel
theorem dX3_linkCount_17 : decode cX3_linkCount 17 = .ok (.iload_n 2, 1) := by decide +kernel
theorem dX3_linkCount_18 : decode cX3_linkCount 18 = .ok (.iaload, 1) := by decide +kernel
theorem dX3_linkCount_19 : decode cX3_linkCount 19 = .ok (.invokestatic 37, 3) := by decide +kernel
theorem dX3_linkCount_22 : decode cX3_linkCount 22 = .ok (.iadd, 1) := by decide +kernel
theorem dX3_linkCount_23 : decode cX3_linkCount 23 = .ok (.istore_n 1, 1) := by decide +kernel
theorem dX3_linkCount_24 : decode cX3_linkCount 24 = .ok (.iinc 2 1, 3) := by decide +kernel
theorem dX3_linkCount_27 : decode cX3_linkCount 27 = .ok (.goto (-23), 3) := by decide +kernel
theorem dX3_linkCount_30 : decode cX3_linkCount 30 = .ok (.iload_n 1, 1) := by decide +kernel
theorem dX3_linkCount_31 : decode cX3_linkCount 31 = .ok (.iconst 2, 1) := by decide +kernel
theorem dX3_linkCount_32 : decode cX3_linkCount 32 = .ok (.idiv, 1) := by decide +kernel
theorem dX3_linkCount_33 : decode cX3_linkCount 33 = .ok (.ireturn, 1) := by decide +kernel
set_option maxRecDepth 20000 in
theorem ggX3_measure_J7_fill_53178 : GoodIn wsX3_measure wsJ7_fill_53178 := goodIn_r _ [7] (by decide +kernel) (by decide +kernel)
set_option maxRecDepth 20000 in
theorem gX3_measure_J7_fill_53178 : GoodIn wsX3_measure (va_wsS RX3 25 yJ7_fill_53178 wsJ7_fill_53178) := goodIn_app (goodIn_of _ (by decide +kernel)) ggX3_measure_J7_fill_53178
set_option maxRecDepth 20000 in
theorem ggX3_measure_X5_has : GoodIn wsX3_measure wsX5_has := goodIn_r _ [10] (by decide +kernel) (by decide +kernel)
set_option maxRecDepth 20000 in
theorem gX3_measure_X5_has_n43 : GoodIn wsX3_measure (wsX5_has) := ggX3_measure_X5_has
theorem dX3_measure_0 : decode cX3_measure 0 = .ok (.aload_n 0, 1) := by decide +kernel
theorem dX3_measure_1 : decode cX3_measure 1 = .ok (.getfield 19, 3) := by decide +kernel
theorem dX3_measure_4 : decode cX3_measure 4 = .ok (.iconst (-1), 1) := by decide +kernel
theorem dX3_measure_5 : decode cX3_measure 5 = .ok (.invokestatic 25, 3) := by decide +kernel
theorem dX3_measure_8 : decode cX3_measure 8 = .ok (.iconst 1, 1) := by decide +kernel
theorem dX3_measure_9 : decode cX3_measure 9 = .ok (.istore_n 1, 1) := by decide +kernel
theorem dX3_measure_10 : decode cX3_measure 10 = .ok (.iload_n 1, 1) := by decide +kernel
theorem dX3_measure_11 : decode cX3_measure 11 = .ok (.istore_n 2, 1) := by decide +kernel
theorem dX3_measure_12 : decode cX3_measure 12 = .ok (.iconst 0, 1) := by decide +kernel
theorem dX3_measure_13 : decode cX3_measure 13 = .ok (.istore_n 3, 1) := by decide +kernel
theorem dX3_measure_14 : decode cX3_measure 14 = .ok (.iload_n 3, 1) := by decide +kernel
theorem dX3_measure_15 : decode cX3_measure 15 = .ok (.aload_n 0, 1) := by decide +kernel
theorem dX3_measure_16 : decode cX3_measure 16 = .ok (.getfield 9, 3) := by decide +kernel
theorem dX3_measure_19 : decode cX3_measure 19 = .ok (.if_icmp .ge 70, 3) := by decide +kernel
theorem dX3_measure_22 : decode cX3_measure 22 = .ok (.iconst 0, 1) := by decide +kernel
theorem dX3_measure_23 : decode cX3_measure 23 = .ok (.istore 4, 2) := by decide +kernel
theorem dX3_measure_25 : decode cX3_measure 25 = .ok (.iconst 0, 1) := by decide +kernel
theorem dX3_measure_26 : decode cX3_measure 26 = .ok (.istore 5, 2) := by decide +kernel
theorem dX3_measure_28 : decode cX3_measure 28 = .ok (.iload 5, 2) := by decide +kernel
theorem dX3_measure_30 : decode cX3_measure 30 = .ok (.aload_n 0, 1) := by decide +kernel
theorem dX3_measure_31 : decode cX3_measure 31 = .ok (.getfield 9, 3) := by decide +kernel
theorem dX3_measure_34 : decode cX3_measure 34 = .ok (.if_icmp .ge 38, 3) := by decide +kernel
theorem dX3_measure_37 : decode cX3_measure 37 = .ok (.iload_n 2, 1) := by decide +kernel
theorem dX3_measure_38 : decode cX3_measure 38 = .ok (.iload 5, 2) := by decide +kernel
theorem dX3_measure_40 : decode cX3_measure 40 = .ok (.invokestatic 43, 3) := by decide +kernel
theorem dX3_measure_43 : decode cX3_measure 43 = .ok (.ifCond .eq 23, 3) := by decide +kernel
theorem dX3_measure_46 : decode cX3_measure 46 = .ok (.aload_n 0, 1) := by decide +kernel
theorem dX3_measure_47 : decode cX3_measure 47 = .ok (.getfield 19, 3) := by decide +kernel
theorem dX3_measure_50 : decode cX3_measure 50 = .ok (.iload 5, 2) := by decide +kernel
theorem dX3_measure_52 : decode cX3_measure 52 = .ok (.iload_n 3, 1) := by decide +kernel
theorem dX3_measure_53 : decode cX3_measure 53 = .ok (.iastore, 1) := by decide +kernel
theorem dX3_measure_54 : decode cX3_measure 54 = .ok (.iload 4, 2) := by decide +kernel
theorem dX3_measure_56 : decode cX3_measure 56 = .ok (.aload_n 0, 1) := by decide +kernel
theorem dX3_measure_57 : decode cX3_measure 57 = .ok (.getfield 15, 3) := by decide +kernel
theorem dX3_measure_60 : decode cX3_measure 60 = .ok (.iload 5, 2) := by decide +kernel
theorem dX3_measure_62 : decode cX3_measure 62 = .ok (.iaload, 1) := by decide +kernel
theorem dX3_measure_63 : decode cX3_measure 63 = .ok (.ior, 1) := by decide +kernel
theorem dX3_measure_64 : decode cX3_measure 64 = .ok (.istore 4, 2) := by decide +kernel
theorem dX3_measure_66 : decode cX3_measure 66 = .ok (.iinc 5 1, 3) := by decide +kernel
theorem dX3_measure_69 : decode cX3_measure 69 = .ok (.goto (-41), 3) := by decide +kernel
theorem dX3_measure_72 : decode cX3_measure 72 = .ok (.iload 4, 2) := by decide +kernel
theorem dX3_measure_74 : decode cX3_measure 74 = .ok (.iload_n 1, 1) := by decide +kernel
theorem dX3_measure_75 : decode cX3_measure 75 = .ok (.iconst (-1), 1) := by decide +kernel
theorem dX3_measure_76 : decode cX3_measure 76 = .ok (.ixor, 1) := by decide +kernel
theorem dX3_measure_77 : decode cX3_measure 77 = .ok (.iand, 1) := by decide +kernel
theorem dX3_measure_78 : decode cX3_measure 78 = .ok (.istore_n 2, 1) := by decide +kernel
theorem dX3_measure_79 : decode cX3_measure 79 = .ok (.iload_n 1, 1) := by decide +kernel
theorem dX3_measure_80 : decode cX3_measure 80 = .ok (.iload_n 2, 1) := by decide +kernel
theorem dX3_measure_81 : decode cX3_measure 81 = .ok (.ior, 1) := by decide +kernel
theorem dX3_measure_82 : decode cX3_measure 82 = .ok (.istore_n 1, 1) := by decide +kernel
theorem dX3_measure_83 : decode cX3_measure 83 = .ok (.iinc 3 1, 3) := by decide +kernel
theorem dX3_measure_86 : decode cX3_measure 86 = .ok (.goto (-72), 3) := by decide +kernel
theorem dX3_measure_89 : decode cX3_measure 89 = .ok (.return_, 1) := by decide +kernel
theorem dX3_isWhole_0 : decode cX3_isWhole 0 = .ok (.iconst 0, 1) := by decide +kernel
theorem dX3_isWhole_1 : decode cX3_isWhole 1 = .ok (.istore_n 1, 1) := by decide +kernel
theorem dX3_isWhole_2 : decode cX3_isWhole 2 = .ok (.iload_n 1, 1) := by decide +kernel
theorem dX3_isWhole_3 : decode cX3_isWhole 3 = .ok (.aload_n 0, 1) := by decide +kernel
theorem dX3_isWhole_4 : decode cX3_isWhole 4 = .ok (.getfield 9, 3) := by decide +kernel
theorem dX3_isWhole_7 : decode cX3_isWhole 7 = .ok (.if_icmp .ge 21, 3) := by decide +kernel
theorem dX3_isWhole_10 : decode cX3_isWhole 10 = .ok (.aload_n 0, 1) := by decide +kernel
theorem dX3_isWhole_11 : decode cX3_isWhole 11 = .ok (.getfield 19, 3) := by decide +kernel
theorem dX3_isWhole_14 : decode cX3_isWhole 14 = .ok (.iload_n 1, 1) := by decide +kernel
theorem dX3_isWhole_15 : decode cX3_isWhole 15 = .ok (.iaload, 1) := by decide +kernel
theorem dX3_isWhole_16 : decode cX3_isWhole 16 = .ok (.iconst (-1), 1) := by decide +kernel
theorem dX3_isWhole_17 : decode cX3_isWhole 17 = .ok (.if_icmp .ne 5, 3) := by decide +kernel
theorem dX3_isWhole_20 : decode cX3_isWhole 20 = .ok (.iconst 0, 1) := by decide +kernel
theorem dX3_isWhole_21 : decode cX3_isWhole 21 = .ok (.ireturn, 1) := by decide +kernel
theorem dX3_isWhole_22 : decode cX3_isWhole 22 = .ok (.iinc 1 1, 3) := by decide +kernel
theorem dX3_isWhole_25 : decode cX3_isWhole 25 = .ok (.goto (-23), 3) := by decide +kernel
theorem dX3_isWhole_28 : decode cX3_isWhole 28 = .ok (.iconst 1, 1) := by decide +kernel
theorem dX3_isWhole_29 : decode cX3_isWhole 29 = .ok (.ireturn, 1) := by decide +kernel
set_option maxRecDepth 20000 in
theorem ggX3_nearer_X5_has : GoodIn wsX3_nearer wsX5_has := goodIn_r _ [6] (by decide +kernel) (by decide +kernel)
set_option maxRecDepth 20000 in
theorem gX3_nearer_X5_has_n43 : GoodIn wsX3_nearer (wsX5_has) := ggX3_nearer_X5_has
theorem dX3_nearer_0 : decode cX3_nearer 0 = .ok (.iload_n 1, 1) := by decide +kernel
theorem dX3_nearer_1 : decode cX3_nearer 1 = .ok (.ifCond .ne 5, 3) := by decide +kernel
theorem dX3_nearer_4 : decode cX3_nearer 4 = .ok (.iconst (-1), 1) := by decide +kernel
theorem dX3_nearer_5 : decode cX3_nearer 5 = .ok (.ireturn, 1) := by decide +kernel
theorem dX3_nearer_6 : decode cX3_nearer 6 = .ok (.iconst 0, 1) := by decide +kernel
theorem dX3_nearer_7 : decode cX3_nearer 7 = .ok (.istore_n 2, 1) := by decide +kernel
theorem dX3_nearer_8 : decode cX3_nearer 8 = .ok (.iload_n 2, 1) := by decide +kernel
theorem dX3_nearer_9 : decode cX3_nearer 9 = .ok (.aload_n 0, 1) := by decide +kernel
theorem dX3_nearer_10 : decode cX3_nearer 10 = .ok (.getfield 9, 3) := by decide +kernel
theorem dX3_nearer_13 : decode cX3_nearer 13 = .ok (.if_icmp .ge 41, 3) := by decide +kernel
theorem dX3_nearer_16 : decode cX3_nearer 16 = .ok (.aload_n 0, 1) := by decide +kernel
theorem dX3_nearer_17 : decode cX3_nearer 17 = .ok (.getfield 15, 3) := by decide +kernel
theorem dX3_nearer_20 : decode cX3_nearer 20 = .ok (.iload_n 1, 1) := by decide +kernel
theorem dX3_nearer_21 : decode cX3_nearer 21 = .ok (.iaload, 1) := by decide +kernel
theorem dX3_nearer_22 : decode cX3_nearer 22 = .ok (.iload_n 2, 1) := by decide +kernel
theorem dX3_nearer_23 : decode cX3_nearer 23 = .ok (.invokestatic 43, 3) := by decide +kernel
theorem dX3_nearer_26 : decode cX3_nearer 26 = .ok (.ifCond .eq 22, 3) := by decide +kernel
theorem dX3_nearer_29 : decode cX3_nearer 29 = .ok (.aload_n 0, 1) := by decide +kernel
theorem dX3_nearer_30 : decode cX3_nearer 30 = .ok (.getfield 19, 3) := by decide +kernel
theorem dX3_nearer_33 : decode cX3_nearer 33 = .ok (.iload_n 2, 1) := by decide +kernel
theorem dX3_nearer_34 : decode cX3_nearer 34 = .ok (.iaload, 1) := by decide +kernel
theorem dX3_nearer_35 : decode cX3_nearer 35 = .ok (.aload_n 0, 1) := by decide +kernel
theorem dX3_nearer_36 : decode cX3_nearer 36 = .ok (.getfield 19, 3) := by decide +kernel
theorem dX3_nearer_39 : decode cX3_nearer 39 = .ok (.iload_n 1, 1) := by decide +kernel
theorem dX3_nearer_40 : decode cX3_nearer 40 = .ok (.iaload, 1) := by decide +kernel
theorem dX3_nearer_41 : decode cX3_nearer 41 = .ok (.iconst 1, 1) := by decide +kernel
theorem dX3_nearer_42 : decode cX3_nearer 42 = .ok (.isub, 1) := by decide +kernel
theorem dX3_nearer_43 : decode cX3_nearer 43 = .ok (.if_icmp .ne 5, 3) := by decide +kernel
theorem dX3_nearer_46 : decode cX3_nearer 46 = .ok (.iload_n 2, 1) := by decide +kernel
theorem dX3_nearer_47 : decode cX3_nearer 47 = .ok (.ireturn, 1) := by decide +kernel
theorem dX3_nearer_48 : decode cX3_nearer 48 = .ok (.iinc 2 1, 3) := by decide +kernel
theorem dX3_nearer_51 : decode cX3_nearer 51 = .ok (.goto (-43), 3) := by decide +kernel
theorem dX3_nearer_54 : decode cX3_nearer 54 = .ok (.iconst (-1), 1) := by decide +kernel
theorem dX3_nearer_55 : decode cX3_nearer 55 = .ok (.ireturn, 1) := by decide +kernel
set_option maxRecDepth 20000 in
theorem ggX3_around_X5_has : GoodIn wsX3_around wsX5_has := goodIn_r _ [5] (by decide +kernel) (by decide +kernel)
set_option maxRecDepth 20000 in
theorem gX3_around_X5_has_n43 : GoodIn wsX3_around (wsX5_has) := ggX3_around_X5_has
theorem dX3_around_0 : decode cX3_around 0 = .ok (.iload_n 1, 1) := by decide +kernel
theorem dX3_around_1 : decode cX3_around 1 = .ok (.istore_n 2, 1) := by decide +kernel
theorem dX3_around_2 : decode cX3_around 2 = .ok (.iconst 0, 1) := by decide +kernel
theorem dX3_around_3 : decode cX3_around 3 = .ok (.istore_n 3, 1) := by decide +kernel
theorem dX3_around_4 : decode cX3_around 4 = .ok (.iload_n 3, 1) := by decide +kernel
theorem dX3_around_5 : decode cX3_around 5 = .ok (.aload_n 0, 1) := by decide +kernel
theorem dX3_around_6 : decode cX3_around 6 = .ok (.getfield 9, 3) := by decide +kernel
theorem dX3_around_9 : decode cX3_around 9 = .ok (.if_icmp .ge 26, 3) := by decide +kernel
theorem dX3_around_12 : decode cX3_around 12 = .ok (.iload_n 1, 1) := by decide +kernel
theorem dX3_around_13 : decode cX3_around 13 = .ok (.iload_n 3, 1) := by decide +kernel
theorem dX3_around_14 : decode cX3_around 14 = .ok (.invokestatic 43, 3) := by decide +kernel
theorem dX3_around_17 : decode cX3_around 17 = .ok (.ifCond .eq 12, 3) := by decide +kernel
theorem dX3_around_20 : decode cX3_around 20 = .ok (.iload_n 2, 1) := by decide +kernel
theorem dX3_around_21 : decode cX3_around 21 = .ok (.aload_n 0, 1) := by decide +kernel
theorem dX3_around_22 : decode cX3_around 22 = .ok (.getfield 15, 3) := by decide +kernel
theorem dX3_around_25 : decode cX3_around 25 = .ok (.iload_n 3, 1) := by decide +kernel
theorem dX3_around_26 : decode cX3_around 26 = .ok (.iaload, 1) := by decide +kernel
theorem dX3_around_27 : decode cX3_around 27 = .ok (.ior, 1) := by decide +kernel
theorem dX3_around_28 : decode cX3_around 28 = .ok (.istore_n 2, 1) := by decide +kernel
theorem dX3_around_29 : decode cX3_around 29 = .ok (.iinc 3 1, 3) := by decide +kernel
theorem dX3_around_32 : decode cX3_around 32 = .ok (.goto (-28), 3) := by decide +kernel
theorem dX3_around_35 : decode cX3_around 35 = .ok (.iload_n 2, 1) := by decide +kernel
theorem dX3_around_36 : decode cX3_around 36 = .ok (.ireturn, 1) := by decide +kernel
set_option maxRecDepth 20000 in
theorem ggX3_slotOf_X5_pick : GoodIn wsX3_slotOf wsX5_pick := goodIn_r _ [4, 5, 6, 3, 7] (by decide +kernel) (by decide +kernel)
set_option maxRecDepth 20000 in
theorem gX3_slotOf_X5_pick_n47 : GoodIn wsX3_slotOf (wsX5_pick) := ggX3_slotOf_X5_pick
theorem dX3_slotOf_0 : decode cX3_slotOf 0 = .ok (.iload_n 2, 1) := by decide +kernel
theorem dX3_slotOf_1 : decode cX3_slotOf 1 = .ok (.iconst 5, 1) := by decide +kernel
theorem dX3_slotOf_2 : decode cX3_slotOf 2 = .ok (.if_icmp .ge 13, 3) := by decide +kernel
theorem dX3_slotOf_5 : decode cX3_slotOf 5 = .ok (.iload_n 2, 1) := by decide +kernel
theorem dX3_slotOf_6 : decode cX3_slotOf 6 = .ok (.ifCond .ge 7, 3) := by decide +kernel
theorem dX3_slotOf_9 : decode cX3_slotOf 9 = .ok (.iconst (-1), 1) := by decide +kernel
theorem dX3_slotOf_10 : decode cX3_slotOf 10 = .ok (.goto 4, 3) := by decide +kernel
theorem dX3_slotOf_13 : decode cX3_slotOf 13 = .ok (.iload_n 2, 1) := by decide +kernel
theorem dX3_slotOf_14 : decode cX3_slotOf 14 = .ok (.ireturn, 1) := by decide +kernel
theorem dX3_slotOf_15 : decode cX3_slotOf 15 = .ok (.aload_n 0, 1) := by decide +kernel
theorem dX3_slotOf_16 : decode cX3_slotOf 16 = .ok (.getfield 15, 3) := by decide +kernel
theorem dX3_slotOf_19 : decode cX3_slotOf 19 = .ok (.iload_n 1, 1) := by decide +kernel
theorem dX3_slotOf_20 : decode cX3_slotOf 20 = .ok (.iaload, 1) := by decide +kernel
theorem dX3_slotOf_21 : decode cX3_slotOf 21 = .ok (.iload_n 2, 1) := by decide +kernel
theorem dX3_slotOf_22 : decode cX3_slotOf 22 = .ok (.iconst 5, 1) := by decide +kernel
theorem dX3_slotOf_23 : decode cX3_slotOf 23 = .ok (.isub, 1) := by decide +kernel
theorem dX3_slotOf_24 : decode cX3_slotOf 24 = .ok (.invokestatic 47, 3) := by decide +kernel
theorem dX3_slotOf_27 : decode cX3_slotOf 27 = .ok (.istore_n 3, 1) := by decide +kernel
theorem dX3_slotOf_28 : decode cX3_slotOf 28 = .ok (.iload_n 3, 1) := by decide +kernel
theorem dX3_slotOf_29 : decode cX3_slotOf 29 = .ok (.iconst (-1), 1) := by decide +kernel
theorem dX3_slotOf_30 : decode cX3_slotOf 30 = .ok (.if_icmp .ne 7, 3) := by decide +kernel
theorem dX3_slotOf_33 : decode cX3_slotOf 33 = .ok (.iconst (-1), 1) := by decide +kernel
theorem dX3_slotOf_34 : decode cX3_slotOf 34 = .ok (.goto 6, 3) := by decide +kernel
theorem dX3_slotOf_37 : decode cX3_slotOf 37 = .ok (.iconst 5, 1) := by decide +kernel
theorem dX3_slotOf_38 : decode cX3_slotOf 38 = .ok (.iload_n 3, 1) := by decide +kernel
theorem dX3_slotOf_39 : decode cX3_slotOf 39 = .ok (.iadd, 1) := by decide +kernel
theorem dX3_slotOf_40 : decode cX3_slotOf 40 = .ok (.ireturn, 1) := by decide +kernel
set_option maxRecDepth 20000 in
theorem ggX3_countsAs_X3_isNode : GoodIn wsX3_countsAs wsX3_isNode := goodIn_r _ [7, 1, 15, 16, 17] (by decide +kernel) (by decide +kernel)
set_option maxRecDepth 20000 in
theorem gX3_countsAs_X3_isNode : GoodIn wsX3_countsAs (wsV RX3 51 RX3 yX3_isNode wsX3_isNode) := goodIn_app (goodIn_of _ (by decide +kernel)) ggX3_countsAs_X3_isNode
set_option maxRecDepth 20000 in
theorem ggX3_countsAs_X5_has : GoodIn wsX3_countsAs wsX5_has := goodIn_r _ [10] (by decide +kernel) (by decide +kernel)
set_option maxRecDepth 20000 in
theorem gX3_countsAs_X5_has_n43 : GoodIn wsX3_countsAs (wsX5_has) := ggX3_countsAs_X5_has
set_option maxRecDepth 20000 in
theorem ggX3_countsAs_X3_greatestX : GoodIn wsX3_countsAs wsX3_greatestX := goodIn_r _ [14, 1, 15, 16, 17] (by decide +kernel) (by decide +kernel)
set_option maxRecDepth 20000 in
theorem gX3_countsAs_X3_greatestX : GoodIn wsX3_countsAs (wsV RX3 55 RX3 yX3_greatestX wsX3_greatestX) := goodIn_app (goodIn_of _ (by decide +kernel)) ggX3_countsAs_X3_greatestX
theorem dX3_countsAs_0 : decode cX3_countsAs 0 = .ok (.iload_n 2, 1) := by decide +kernel
theorem dX3_countsAs_1 : decode cX3_countsAs 1 = .ok (.tableswitch 100 0 4 #[35, 56, 83, 98, 98], 35) := by decide +kernel
theorem dX3_countsAs_36 : decode cX3_countsAs 36 = .ok (.iload_n 3, 1) := by decide +kernel
theorem dX3_countsAs_37 : decode cX3_countsAs 37 = .ok (.ifCond .lt 15, 3) := by decide +kernel
theorem dX3_countsAs_40 : decode cX3_countsAs 40 = .ok (.iload_n 3, 1) := by decide +kernel
theorem dX3_countsAs_41 : decode cX3_countsAs 41 = .ok (.aload_n 0, 1) := by decide +kernel
theorem dX3_countsAs_42 : decode cX3_countsAs 42 = .ok (.getfield 9, 3) := by decide +kernel
theorem dX3_countsAs_45 : decode cX3_countsAs 45 = .ok (.if_icmp .gt 7, 3) := by decide +kernel
theorem dX3_countsAs_48 : decode cX3_countsAs 48 = .ok (.iload_n 3, 1) := by decide +kernel
theorem dX3_countsAs_49 : decode cX3_countsAs 49 = .ok (.goto 7, 3) := by decide +kernel
theorem dX3_countsAs_52 : decode cX3_countsAs 52 = .ok (.aload_n 0, 1) := by decide +kernel
theorem dX3_countsAs_53 : decode cX3_countsAs 53 = .ok (.getfield 9, 3) := by decide +kernel
theorem dX3_countsAs_56 : decode cX3_countsAs 56 = .ok (.ireturn, 1) := by decide +kernel
theorem dX3_countsAs_57 : decode cX3_countsAs 57 = .ok (.aload_n 0, 1) := by decide +kernel
theorem dX3_countsAs_58 : decode cX3_countsAs 58 = .ok (.iload_n 3, 1) := by decide +kernel
theorem dX3_countsAs_59 : decode cX3_countsAs 59 = .ok (.invokevirtual 51, 3) := by decide +kernel
theorem dX3_countsAs_62 : decode cX3_countsAs 62 = .ok (.ifCond .eq 20, 3) := by decide +kernel
theorem dX3_countsAs_65 : decode cX3_countsAs 65 = .ok (.aload_n 0, 1) := by decide +kernel
theorem dX3_countsAs_66 : decode cX3_countsAs 66 = .ok (.getfield 15, 3) := by decide +kernel
theorem dX3_countsAs_69 : decode cX3_countsAs 69 = .ok (.iload_n 1, 1) := by decide +kernel
theorem dX3_countsAs_70 : decode cX3_countsAs 70 = .ok (.iaload, 1) := by decide +kernel
theorem dX3_countsAs_71 : decode cX3_countsAs 71 = .ok (.iload_n 3, 1) := by decide +kernel
theorem dX3_countsAs_72 : decode cX3_countsAs 72 = .ok (.invokestatic 43, 3) := by decide +kernel
theorem dX3_countsAs_75 : decode cX3_countsAs 75 = .ok (.ifCond .eq 7, 3) := by decide +kernel
theorem dX3_countsAs_78 : decode cX3_countsAs 78 = .ok (.iload_n 3, 1) := by decide +kernel
theorem dX3_countsAs_79 : decode cX3_countsAs 79 = .ok (.goto 4, 3) := by decide +kernel
theorem dX3_countsAs_82 : decode cX3_countsAs 82 = .ok (.iconst (-1), 1) := by decide +kernel
theorem dX3_countsAs_83 : decode cX3_countsAs 83 = .ok (.ireturn, 1) := by decide +kernel
theorem dX3_countsAs_84 : decode cX3_countsAs 84 = .ok (.iload_n 3, 1) := by decide +kernel
theorem dX3_countsAs_85 : decode cX3_countsAs 85 = .ok (.ifCond .lt 12, 3) := by decide +kernel
theorem dX3_countsAs_88 : decode cX3_countsAs 88 = .ok (.iload_n 3, 1) := by decide +kernel
theorem dX3_countsAs_89 : decode cX3_countsAs 89 = .ok (.iconst 2, 1) := by decide +kernel
theorem dX3_countsAs_90 : decode cX3_countsAs 90 = .ok (.if_icmp .gt 7, 3) := by decide +kernel
theorem dX3_countsAs_93 : decode cX3_countsAs 93 = .ok (.iload_n 3, 1) := by decide +kernel
theorem dX3_countsAs_94 : decode cX3_countsAs 94 = .ok (.goto 4, 3) := by decide +kernel
theorem dX3_countsAs_97 : decode cX3_countsAs 97 = .ok (.iconst 0, 1) := by decide +kernel
theorem dX3_countsAs_98 : decode cX3_countsAs 98 = .ok (.ireturn, 1) := by decide +kernel
theorem dX3_countsAs_99 : decode cX3_countsAs 99 = .ok (.iload_n 3, 1) := by decide +kernel
theorem dX3_countsAs_100 : decode cX3_countsAs 100 = .ok (.ireturn, 1) := by decide +kernel
theorem dX3_countsAs_101 : decode cX3_countsAs 101 = .ok (.iload_n 3, 1) := by decide +kernel
theorem dX3_countsAs_102 : decode cX3_countsAs 102 = .ok (.ifCond .lt 15, 3) := by decide +kernel
theorem dX3_countsAs_105 : decode cX3_countsAs 105 = .ok (.iload_n 3, 1) := by decide +kernel
theorem dX3_countsAs_106 : decode cX3_countsAs 106 = .ok (.aload_n 0, 1) := by decide +kernel
theorem dX3_countsAs_107 : decode cX3_countsAs 107 = .ok (.invokevirtual 55, 3) := by decide +kernel
theorem dX3_countsAs_110 : decode cX3_countsAs 110 = .ok (.if_icmp .gt 7, 3) := by decide +kernel
theorem dX3_countsAs_113 : decode cX3_countsAs 113 = .ok (.iload_n 3, 1) := by decide +kernel
theorem dX3_countsAs_114 : decode cX3_countsAs 114 = .ok (.goto 4, 3) := by decide +kernel
theorem dX3_countsAs_117 : decode cX3_countsAs 117 = .ok (.iconst 0, 1) := by decide +kernel
theorem dX3_countsAs_118 : decode cX3_countsAs 118 = .ok (.ireturn, 1) := by decide +kernel
theorem dX3_greatestX_0 : decode cX3_greatestX 0 = .ok (.iconst 2, 1) := by decide +kernel
theorem dX3_greatestX_1 : decode cX3_greatestX 1 = .ok (.aload_n 0, 1) := by decide +kernel
theorem dX3_greatestX_2 : decode cX3_greatestX 2 = .ok (.getfield 9, 3) := by decide +kernel
theorem dX3_greatestX_5 : decode cX3_greatestX 5 = .ok (.imul, 1) := by decide +kernel
theorem dX3_greatestX_6 : decode cX3_greatestX 6 = .ok (.ireturn, 1) := by decide +kernel
theorem dX4_init_0 : decode cX4_init 0 = .ok (.aload_n 0, 1) := by decide +kernel
theorem dX4_init_1 : decode cX4_init 1 = .ok (.invokespecial 3, 3) := by decide +kernel
theorem dX4_init_4 : decode cX4_init 4 = .ok (.aload_n 0, 1) := by decide +kernel
theorem dX4_init_5 : decode cX4_init 5 = .ok (.iconst 0, 1) := by decide +kernel
theorem dX4_init_6 : decode cX4_init 6 = .ok (.putfield 9, 3) := by decide +kernel
theorem dX4_init_9 : decode cX4_init 9 = .ok (.aload_n 0, 1) := by decide +kernel
theorem dX4_init_10 : decode cX4_init 10 = .ok (.iconst 0, 1) := by decide +kernel
theorem dX4_init_11 : decode cX4_init 11 = .ok (.putfield 15, 3) := by decide +kernel
theorem dX4_init_14 : decode cX4_init 14 = .ok (.aload_n 0, 1) := by decide +kernel
theorem dX4_init_15 : decode cX4_init 15 = .ok (.iconst 0, 1) := by decide +kernel
theorem dX4_init_16 : decode cX4_init 16 = .ok (.putfield 18, 3) := by decide +kernel
theorem dX4_init_19 : decode cX4_init 19 = .ok (.aload_n 0, 1) := by decide +kernel
theorem dX4_init_20 : decode cX4_init 20 = .ok (.iconst 0, 1) := by decide +kernel
theorem dX4_init_21 : decode cX4_init 21 = .ok (.putfield 21, 3) := by decide +kernel
theorem dX4_init_24 : decode cX4_init 24 = .ok (.aload_n 0, 1) := by decide +kernel
theorem dX4_init_25 : decode cX4_init 25 = .ok (.iconst 4, 1) := by decide +kernel
theorem dX4_init_26 : decode cX4_init 26 = .ok (.newarray .int, 2) := by decide +kernel
theorem dX4_init_28 : decode cX4_init 28 = .ok (.putfield 24, 3) := by decide +kernel
theorem dX4_init_31 : decode cX4_init 31 = .ok (.aload_n 0, 1) := by decide +kernel
theorem dX4_init_32 : decode cX4_init 32 = .ok (.bipush 12, 2) := by decide +kernel
theorem dX4_init_34 : decode cX4_init 34 = .ok (.newarray .int, 2) := by decide +kernel
theorem dX4_init_36 : decode cX4_init 36 = .ok (.putfield 28, 3) := by decide +kernel
theorem dX4_init_39 : decode cX4_init 39 = .ok (.return_, 1) := by decide +kernel
set_option maxRecDepth 20000 in
theorem ggX4_clear_J7_fill_53178 : GoodIn wsX4_clear wsJ7_fill_53178 := goodIn_r _ [10] (by decide +kernel) (by decide +kernel)
set_option maxRecDepth 20000 in
theorem gX4_clear_J7_fill_53178 : GoodIn wsX4_clear (va_wsS RX4 31 yJ7_fill_53178 wsJ7_fill_53178) := goodIn_app (goodIn_of _ (by decide +kernel)) ggX4_clear_J7_fill_53178
theorem dX4_clear_0 : decode cX4_clear 0 = .ok (.aload_n 0, 1) := by decide +kernel
theorem dX4_clear_1 : decode cX4_clear 1 = .ok (.iconst 0, 1) := by decide +kernel
theorem dX4_clear_2 : decode cX4_clear 2 = .ok (.putfield 9, 3) := by decide +kernel
theorem dX4_clear_5 : decode cX4_clear 5 = .ok (.aload_n 0, 1) := by decide +kernel
theorem dX4_clear_6 : decode cX4_clear 6 = .ok (.iconst 0, 1) := by decide +kernel
theorem dX4_clear_7 : decode cX4_clear 7 = .ok (.putfield 15, 3) := by decide +kernel
theorem dX4_clear_10 : decode cX4_clear 10 = .ok (.aload_n 0, 1) := by decide +kernel
theorem dX4_clear_11 : decode cX4_clear 11 = .ok (.iconst 0, 1) := by decide +kernel
theorem dX4_clear_12 : decode cX4_clear 12 = .ok (.putfield 18, 3) := by decide +kernel
theorem dX4_clear_15 : decode cX4_clear 15 = .ok (.aload_n 0, 1) := by decide +kernel
theorem dX4_clear_16 : decode cX4_clear 16 = .ok (.iconst 0, 1) := by decide +kernel
theorem dX4_clear_17 : decode cX4_clear 17 = .ok (.putfield 21, 3) := by decide +kernel
theorem dX4_clear_20 : decode cX4_clear 20 = .ok (.aload_n 0, 1) := by decide +kernel
theorem dX4_clear_21 : decode cX4_clear 21 = .ok (.getfield 24, 3) := by decide +kernel
theorem dX4_clear_24 : decode cX4_clear 24 = .ok (.iconst 0, 1) := by decide +kernel
theorem dX4_clear_25 : decode cX4_clear 25 = .ok (.invokestatic 31, 3) := by decide +kernel
theorem dX4_clear_28 : decode cX4_clear 28 = .ok (.aload_n 0, 1) := by decide +kernel
theorem dX4_clear_29 : decode cX4_clear 29 = .ok (.getfield 28, 3) := by decide +kernel
theorem dX4_clear_32 : decode cX4_clear 32 = .ok (.iconst 0, 1) := by decide +kernel
theorem dX4_clear_33 : decode cX4_clear 33 = .ok (.invokestatic 31, 3) := by decide +kernel
theorem dX4_clear_36 : decode cX4_clear 36 = .ok (.return_, 1) := by decide +kernel
theorem dX4_copyFrom_0 : decode cX4_copyFrom 0 = .ok (.aload_n 0, 1) := by decide +kernel
theorem dX4_copyFrom_1 : decode cX4_copyFrom 1 = .ok (.aload_n 1, 1) := by decide +kernel
theorem dX4_copyFrom_2 : decode cX4_copyFrom 2 = .ok (.getfield 9, 3) := by decide +kernel
theorem dX4_copyFrom_5 : decode cX4_copyFrom 5 = .ok (.putfield 9, 3) := by decide +kernel
theorem dX4_copyFrom_8 : decode cX4_copyFrom 8 = .ok (.aload_n 0, 1) := by decide +kernel
theorem dX4_copyFrom_9 : decode cX4_copyFrom 9 = .ok (.aload_n 1, 1) := by decide +kernel
theorem dX4_copyFrom_10 : decode cX4_copyFrom 10 = .ok (.getfield 15, 3) := by decide +kernel
theorem dX4_copyFrom_13 : decode cX4_copyFrom 13 = .ok (.putfield 15, 3) := by decide +kernel
theorem dX4_copyFrom_16 : decode cX4_copyFrom 16 = .ok (.aload_n 0, 1) := by decide +kernel
theorem dX4_copyFrom_17 : decode cX4_copyFrom 17 = .ok (.aload_n 1, 1) := by decide +kernel
theorem dX4_copyFrom_18 : decode cX4_copyFrom 18 = .ok (.getfield 18, 3) := by decide +kernel
theorem dX4_copyFrom_21 : decode cX4_copyFrom 21 = .ok (.putfield 18, 3) := by decide +kernel
theorem dX4_copyFrom_24 : decode cX4_copyFrom 24 = .ok (.aload_n 0, 1) := by decide +kernel
theorem dX4_copyFrom_25 : decode cX4_copyFrom 25 = .ok (.aload_n 1, 1) := by decide +kernel
theorem dX4_copyFrom_26 : decode cX4_copyFrom 26 = .ok (.getfield 21, 3) := by decide +kernel
theorem dX4_copyFrom_29 : decode cX4_copyFrom 29 = .ok (.putfield 21, 3) := by decide +kernel
theorem dX4_copyFrom_32 : decode cX4_copyFrom 32 = .ok (.aload_n 1, 1) := by decide +kernel
theorem dX4_copyFrom_33 : decode cX4_copyFrom 33 = .ok (.getfield 24, 3) := by decide +kernel
theorem dX4_copyFrom_36 : decode cX4_copyFrom 36 = .ok (.iconst 0, 1) := by decide +kernel
theorem dX4_copyFrom_37 : decode cX4_copyFrom 37 = .ok (.aload_n 0, 1) := by decide +kernel
theorem dX4_copyFrom_38 : decode cX4_copyFrom 38 = .ok (.getfield 24, 3) := by decide +kernel
theorem dX4_copyFrom_41 : decode cX4_copyFrom 41 = .ok (.iconst 0, 1) := by decide +kernel
theorem dX4_copyFrom_42 : decode cX4_copyFrom 42 = .ok (.iconst 4, 1) := by decide +kernel
theorem dX4_copyFrom_43 : decode cX4_copyFrom 43 = .ok (.invokestatic 37, 3) := by decide +kernel
theorem dX4_copyFrom_46 : decode cX4_copyFrom 46 = .ok (.aload_n 1, 1) := by decide +kernel
theorem dX4_copyFrom_47 : decode cX4_copyFrom 47 = .ok (.getfield 28, 3) := by decide +kernel
theorem dX4_copyFrom_50 : decode cX4_copyFrom 50 = .ok (.iconst 0, 1) := by decide +kernel
theorem dX4_copyFrom_51 : decode cX4_copyFrom 51 = .ok (.aload_n 0, 1) := by decide +kernel
theorem dX4_copyFrom_52 : decode cX4_copyFrom 52 = .ok (.getfield 28, 3) := by decide +kernel
theorem dX4_copyFrom_55 : decode cX4_copyFrom 55 = .ok (.iconst 0, 1) := by decide +kernel
theorem dX4_copyFrom_56 : decode cX4_copyFrom 56 = .ok (.bipush 12, 2) := by decide +kernel
theorem dX4_copyFrom_58 : decode cX4_copyFrom 58 = .ok (.invokestatic 37, 3) := by decide +kernel
theorem dX4_copyFrom_61 : decode cX4_copyFrom 61 = .ok (.return_, 1) := by decide +kernel
set_option maxRecDepth 20000 in
theorem ggX5_init_X0_init : GoodIn wsX5_init wsX0_init := goodIn_r _ [11, 12, 2, 3, 13, 14, 15, 16, 17, 18, 19, 20, 21, 22, 23, 24, 25, 26, 27, 28, 29, 30, 31, 32, 33, 34, 35, 36, 37, 38, 39, 40, 41, 42, 43, 44, 45, 46, 47, 48, 49, 50, 51, 52, 53, 54, 55, 56, 57, 58, 59, 60, 61, 62, 63, 64, 65, 66, 67, 68, 69, 70, 71, 72, 85, 86, 87, 73, 74, 75, 76, 77, 78, 79, 80, 81, 88, 89, 90, 91, 92, 93, 94, 95, 96, 97] (by decide +kernel) (by decide +kernel)
set_option maxRecDepth 20000 in
theorem gX5_init_X0_init_n11 : GoodIn wsX5_init (wsX0_init) := ggX5_init_X0_init
theorem dX5_init_0 : decode cX5_init 0 = .ok (.aload_n 0, 1) := by decide +kernel
theorem dX5_init_1 : decode cX5_init 1 = .ok (.invokespecial 3, 3) := by decide +kernel
theorem dX5_init_4 : decode cX5_init 4 = .ok (.aload_n 0, 1) := by decide +kernel
theorem dX5_init_5 : decode cX5_init 5 = .ok (.new 9, 3) := by decide +kernel
theorem dX5_init_8 : decode cX5_init 8 = .ok (.dup, 1) := by decide +kernel
theorem dX5_init_9 : decode cX5_init 9 = .ok (.invokespecial 11, 3) := by decide +kernel
theorem dX5_init_12 : decode cX5_init 12 = .ok (.putfield 12, 3) := by decide +kernel
theorem dX5_init_15 : decode cX5_init 15 = .ok (.aload_n 0, 1) := by decide +kernel
theorem dX5_init_16 : decode cX5_init 16 = .ok (.new 9, 3) := by decide +kernel
theorem dX5_init_19 : decode cX5_init 19 = .ok (.dup, 1) := by decide +kernel
theorem dX5_init_20 : decode cX5_init 20 = .ok (.invokespecial 11, 3) := by decide +kernel
theorem dX5_init_23 : decode cX5_init 23 = .ok (.putfield 16, 3) := by decide +kernel
theorem dX5_init_26 : decode cX5_init 26 = .ok (.aload_n 0, 1) := by decide +kernel
theorem dX5_init_27 : decode cX5_init 27 = .ok (.iconst 0, 1) := by decide +kernel
theorem dX5_init_28 : decode cX5_init 28 = .ok (.putfield 19, 3) := by decide +kernel
theorem dX5_init_31 : decode cX5_init 31 = .ok (.return_, 1) := by decide +kernel
set_option maxRecDepth 20000 in
theorem ggX5_open_X0_clear : GoodIn wsX5_open wsX0_clear := goodIn_r _ [8, 9, 10, 11, 12, 13, 14, 15, 16, 17, 18, 19, 20, 21, 22, 23, 24, 25, 26, 27, 28, 29, 30, 31, 32, 33, 34, 35, 36, 37, 38, 39, 40, 41, 42, 43, 44, 45, 46, 47, 48, 49, 50, 51, 52, 53, 54, 55, 56, 60, 61, 62, 63, 64, 65, 66, 67, 68, 69, 70, 71, 72, 73, 74, 75, 76, 77, 78, 79, 80, 81] (by decide +kernel) (by decide +kernel)
set_option maxRecDepth 20000 in
theorem gX5_open_X0_clear : GoodIn wsX5_open (wsV RX5 33 RX0 yX0_clear wsX0_clear) := goodIn_app (goodIn_of _ (by decide +kernel)) ggX5_open_X0_clear
theorem dX5_open_0 : decode cX5_open 0 = .ok (.iload_n 1, 1) := by decide +kernel
theorem dX5_open_1 : decode cX5_open 1 = .ok (.iconst 2, 1) := by decide +kernel
theorem dX5_open_2 : decode cX5_open 2 = .ok (.if_icmp .lt 9, 3) := by decide +kernel
theorem dX5_open_5 : decode cX5_open 5 = .ok (.iload_n 1, 1) := by decide +kernel
theorem dX5_open_6 : decode cX5_open 6 = .ok (.bipush 12, 2) := by decide +kernel
theorem dX5_open_8 : decode cX5_open 8 = .ok (.if_icmp .le 6, 3) := by decide +kernel
theorem dX5_open_11 : decode cX5_open 11 = .ok (.bipush (-102), 2) := by decide +kernel
theorem dX5_open_13 : decode cX5_open 13 = .ok (.ireturn, 1) := by decide +kernel
theorem dX5_open_14 : decode cX5_open 14 = .ok (.aload_n 0, 1) := by decide +kernel
theorem dX5_open_15 : decode cX5_open 15 = .ok (.getfield 12, 3) := by decide +kernel
theorem dX5_open_18 : decode cX5_open 18 = .ok (.getfield 23, 3) := by decide +kernel
theorem dX5_open_21 : decode cX5_open 21 = .ok (.getfield 27, 3) := by decide +kernel
theorem dX5_open_24 : decode cX5_open 24 = .ok (.istore_n 2, 1) := by decide +kernel
theorem dX5_open_25 : decode cX5_open 25 = .ok (.aload_n 0, 1) := by decide +kernel
theorem dX5_open_26 : decode cX5_open 26 = .ok (.getfield 12, 3) := by decide +kernel
theorem dX5_open_29 : decode cX5_open 29 = .ok (.iload_n 1, 1) := by decide +kernel
theorem dX5_open_30 : decode cX5_open 30 = .ok (.invokevirtual 33, 3) := by decide +kernel
theorem dX5_open_33 : decode cX5_open 33 = .ok (.iload_n 2, 1) := by decide +kernel
theorem dX5_open_34 : decode cX5_open 34 = .ok (.ireturn, 1) := by decide +kernel
set_option maxRecDepth 20000 in
theorem ggX5_link_X3_isNode : GoodIn wsX5_link wsX3_isNode := goodIn_r _ [9, 10, 41, 42, 43] (by decide +kernel) (by decide +kernel)
set_option maxRecDepth 20000 in
theorem gX5_link_X3_isNode : GoodIn wsX5_link (wsV RX5 37 RX3 yX3_isNode wsX3_isNode) := goodIn_app (goodIn_of _ (by decide +kernel)) ggX5_link_X3_isNode
set_option maxRecDepth 20000 in
theorem ggX5_link_X5_has : GoodIn wsX5_link wsX5_has := goodIn_r _ [14] (by decide +kernel) (by decide +kernel)
set_option maxRecDepth 20000 in
theorem gX5_link_X5_has : GoodIn wsX5_link (va_wsS RX5 48 yX5_has wsX5_has) := goodIn_app (goodIn_of _ (by decide +kernel)) ggX5_link_X5_has
set_option maxRecDepth 20000 in
theorem ggX5_link_X3_join : GoodIn wsX5_link wsX3_join := goodIn_r _ [18, 19, 20, 21, 22, 8, 23, 24, 10, 25, 26, 27, 28, 12, 13, 14, 41, 42, 43] (by decide +kernel) (by decide +kernel)
set_option maxRecDepth 20000 in
theorem gX5_link_X3_join : GoodIn wsX5_link (wsV RX5 52 RX3 yX3_join wsX3_join) := goodIn_app (goodIn_of _ (by decide +kernel)) ggX5_link_X3_join
theorem dX5_link_0 : decode cX5_link 0 = .ok (.aload_n 0, 1) := by decide +kernel
theorem dX5_link_1 : decode cX5_link 1 = .ok (.getfield 12, 3) := by decide +kernel
theorem dX5_link_4 : decode cX5_link 4 = .ok (.getfield 23, 3) := by decide +kernel
theorem dX5_link_7 : decode cX5_link 7 = .ok (.iload_n 1, 1) := by decide +kernel
theorem dX5_link_8 : decode cX5_link 8 = .ok (.invokevirtual 37, 3) := by decide +kernel
theorem dX5_link_11 : decode cX5_link 11 = .ok (.ifCond .eq 17, 3) := by decide +kernel
theorem dX5_link_14 : decode cX5_link 14 = .ok (.aload_n 0, 1) := by decide +kernel
theorem dX5_link_15 : decode cX5_link 15 = .ok (.getfield 12, 3) := by decide +kernel
theorem dX5_link_18 : decode cX5_link 18 = .ok (.getfield 23, 3) := by decide +kernel
theorem dX5_link_21 : decode cX5_link 21 = .ok (.iload_n 2, 1) := by decide +kernel
theorem dX5_link_22 : decode cX5_link 22 = .ok (.invokevirtual 37, 3) := by decide +kernel
theorem dX5_link_25 : decode cX5_link 25 = .ok (.ifCond .ne 6, 3) := by decide +kernel
theorem dX5_link_28 : decode cX5_link 28 = .ok (.bipush (-101), 2) := by decide +kernel
theorem dX5_link_30 : decode cX5_link 30 = .ok (.ireturn, 1) := by decide +kernel
theorem dX5_link_31 : decode cX5_link 31 = .ok (.iload_n 1, 1) := by decide +kernel
theorem dX5_link_32 : decode cX5_link 32 = .ok (.iload_n 2, 1) := by decide +kernel
theorem dX5_link_33 : decode cX5_link 33 = .ok (.if_icmp .ne 6, 3) := by decide +kernel
theorem dX5_link_36 : decode cX5_link 36 = .ok (.bipush (-102), 2) := by decide +kernel
theorem dX5_link_38 : decode cX5_link 38 = .ok (.ireturn, 1) := by decide +kernel
theorem dX5_link_39 : decode cX5_link 39 = .ok (.aload_n 0, 1) := by decide +kernel
theorem dX5_link_40 : decode cX5_link 40 = .ok (.getfield 12, 3) := by decide +kernel
theorem dX5_link_43 : decode cX5_link 43 = .ok (.getfield 41, 3) := by decide +kernel
theorem dX5_link_46 : decode cX5_link 46 = .ok (.ifCond .eq 6, 3) := by decide +kernel
theorem dX5_link_49 : decode cX5_link 49 = .ok (.bipush (-103), 2) := by decide +kernel
theorem dX5_link_51 : decode cX5_link 51 = .ok (.ireturn, 1) := by decide +kernel
theorem dX5_link_52 : decode cX5_link 52 = .ok (.aload_n 0, 1) := by decide +kernel
theorem dX5_link_53 : decode cX5_link 53 = .ok (.getfield 12, 3) := by decide +kernel
theorem dX5_link_56 : decode cX5_link 56 = .ok (.getfield 23, 3) := by decide +kernel
theorem dX5_link_59 : decode cX5_link 59 = .ok (.getfield 44, 3) := by decide +kernel
theorem dX5_link_62 : decode cX5_link 62 = .ok (.iload_n 1, 1) := by decide +kernel
theorem dX5_link_63 : decode cX5_link 63 = .ok (.iaload, 1) := by decide +kernel
theorem dX5_link_64 : decode cX5_link 64 = .ok (.iload_n 2, 1) := by decide +kernel
theorem dX5_link_65 : decode cX5_link 65 = .ok (.invokestatic 48, 3) := by decide +kernel
theorem dX5_link_68 : decode cX5_link 68 = .ok (.ifCond .eq 7, 3) := by decide +kernel
theorem dX5_link_71 : decode cX5_link 71 = .ok (.iconst 1, 1) := by decide +kernel
theorem dX5_link_72 : decode cX5_link 72 = .ok (.goto 4, 3) := by decide +kernel
theorem dX5_link_75 : decode cX5_link 75 = .ok (.iconst 0, 1) := by decide +kernel
theorem dX5_link_76 : decode cX5_link 76 = .ok (.istore 4, 2) := by decide +kernel
theorem dX5_link_78 : decode cX5_link 78 = .ok (.aload_n 0, 1) := by decide +kernel
theorem dX5_link_79 : decode cX5_link 79 = .ok (.getfield 12, 3) := by decide +kernel
theorem dX5_link_82 : decode cX5_link 82 = .ok (.getfield 23, 3) := by decide +kernel
theorem dX5_link_85 : decode cX5_link 85 = .ok (.iload_n 1, 1) := by decide +kernel
theorem dX5_link_86 : decode cX5_link 86 = .ok (.iload_n 2, 1) := by decide +kernel
theorem dX5_link_87 : decode cX5_link 87 = .ok (.iload_n 3, 1) := by decide +kernel
theorem dX5_link_88 : decode cX5_link 88 = .ok (.invokevirtual 52, 3) := by decide +kernel
theorem dX5_link_91 : decode cX5_link 91 = .ok (.iload 4, 2) := by decide +kernel
theorem dX5_link_93 : decode cX5_link 93 = .ok (.ireturn, 1) := by decide +kernel
set_option maxRecDepth 20000 in
theorem ggX5_build_X3_isWhole : GoodIn wsX5_build wsX3_isWhole := goodIn_r _ [8, 9, 10, 102, 103, 104] (by decide +kernel) (by decide +kernel)
set_option maxRecDepth 20000 in
theorem gX5_build_X3_isWhole : GoodIn wsX5_build (wsV RX5 56 RX3 yX3_isWhole wsX3_isWhole) := goodIn_app (goodIn_of _ (by decide +kernel)) ggX5_build_X3_isWhole
set_option maxRecDepth 20000 in
theorem ggX5_build_X0_beginAnew : GoodIn wsX5_build wsX0_beginAnew := goodIn_r _ [15, 16, 17, 18, 19, 20, 21, 22, 23, 24, 25, 26, 14, 27, 28, 29, 30, 31, 32, 33, 34, 35, 36, 37, 38, 39, 40, 41, 42, 43, 44, 45, 46, 47, 48, 49, 50, 51, 52, 53, 54, 55, 56, 57, 58, 59, 60, 61, 62, 63, 64, 65, 66, 67, 68, 69, 70, 71, 72, 73, 74, 75, 76, 77, 93, 94, 95, 96, 97, 98, 99, 100, 101, 102, 103, 104, 105, 106, 107, 108] (by decide +kernel) (by decide +kernel)
set_option maxRecDepth 20000 in
theorem gX5_build_X0_beginAnew : GoodIn wsX5_build (wsV RX5 60 RX0 yX0_beginAnew wsX0_beginAnew) := goodIn_app (goodIn_of _ (by decide +kernel)) ggX5_build_X0_beginAnew
set_option maxRecDepth 20000 in
theorem ggX5_build_X3_linkCount : GoodIn wsX5_build wsX3_linkCount := goodIn_r _ [81, 9, 82, 83, 84, 85, 86, 87, 88, 89, 102, 103, 104] (by decide +kernel) (by decide +kernel)
set_option maxRecDepth 20000 in
theorem gX5_build_X3_linkCount : GoodIn wsX5_build (wsV RX5 63 RX3 yX3_linkCount wsX3_linkCount) := goodIn_app (goodIn_of _ (by decide +kernel)) ggX5_build_X3_linkCount
theorem dX5_build_0 : decode cX5_build 0 = .ok (.aload_n 0, 1) := by decide +kernel
theorem dX5_build_1 : decode cX5_build 1 = .ok (.getfield 12, 3) := by decide +kernel
theorem dX5_build_4 : decode cX5_build 4 = .ok (.getfield 41, 3) := by decide +kernel
theorem dX5_build_7 : decode cX5_build 7 = .ok (.ifCond .ne 16, 3) := by decide +kernel
theorem dX5_build_10 : decode cX5_build 10 = .ok (.aload_n 0, 1) := by decide +kernel
theorem dX5_build_11 : decode cX5_build 11 = .ok (.getfield 12, 3) := by decide +kernel
theorem dX5_build_14 : decode cX5_build 14 = .ok (.getfield 23, 3) := by decide +kernel
theorem dX5_build_17 : decode cX5_build 17 = .ok (.invokevirtual 56, 3) := by decide +kernel
theorem dX5_build_20 : decode cX5_build 20 = .ok (.ifCond .ne 6, 3) := by decide +kernel
theorem dX5_build_23 : decode cX5_build 23 = .ok (.bipush (-103), 2) := by decide +kernel
theorem dX5_build_25 : decode cX5_build 25 = .ok (.ireturn, 1) := by decide +kernel
theorem dX5_build_26 : decode cX5_build 26 = .ok (.aload_n 0, 1) := by decide +kernel
theorem dX5_build_27 : decode cX5_build 27 = .ok (.getfield 12, 3) := by decide +kernel
theorem dX5_build_30 : decode cX5_build 30 = .ok (.iconst 1, 1) := by decide +kernel
theorem dX5_build_31 : decode cX5_build 31 = .ok (.putfield 41, 3) := by decide +kernel
theorem dX5_build_34 : decode cX5_build 34 = .ok (.aload_n 0, 1) := by decide +kernel
theorem dX5_build_35 : decode cX5_build 35 = .ok (.getfield 12, 3) := by decide +kernel
theorem dX5_build_38 : decode cX5_build 38 = .ok (.invokevirtual 60, 3) := by decide +kernel
theorem dX5_build_41 : decode cX5_build 41 = .ok (.aload_n 0, 1) := by decide +kernel
theorem dX5_build_42 : decode cX5_build 42 = .ok (.getfield 12, 3) := by decide +kernel
theorem dX5_build_45 : decode cX5_build 45 = .ok (.getfield 23, 3) := by decide +kernel
theorem dX5_build_48 : decode cX5_build 48 = .ok (.invokevirtual 63, 3) := by decide +kernel
theorem dX5_build_51 : decode cX5_build 51 = .ok (.ireturn, 1) := by decide +kernel
set_option maxRecDepth 20000 in
theorem ggX5_value_X3_isNode : GoodIn wsX5_value wsX3_isNode := goodIn_r _ [9, 10, 125, 126, 127] (by decide +kernel) (by decide +kernel)
set_option maxRecDepth 20000 in
theorem gX5_value_X3_isNode : GoodIn wsX5_value (wsV RX5 37 RX3 yX3_isNode wsX3_isNode) := goodIn_app (goodIn_of _ (by decide +kernel)) ggX5_value_X3_isNode
set_option maxRecDepth 20000 in
theorem ggX5_value_X0_overwrite : GoodIn wsX5_value wsX0_overwrite := goodIn_r _ [15, 16, 17, 18, 19, 20, 21, 22, 23, 24, 25, 26, 27, 28, 29, 30, 31, 32, 8, 33, 10, 34, 35, 6, 7, 9, 36, 37, 38, 39, 40, 41, 42, 43, 44, 45, 46, 47, 48, 49, 112, 113, 114, 115, 116, 117, 118, 119, 120, 121, 122, 123, 124, 125, 126, 127] (by decide +kernel) (by decide +kernel)
set_option maxRecDepth 20000 in
theorem gX5_value_X0_overwrite : GoodIn wsX5_value (wsV RX5 77 RX0 yX0_overwrite wsX0_overwrite) := goodIn_app (goodIn_of _ (by decide +kernel)) ggX5_value_X0_overwrite
set_option maxRecDepth 20000 in
theorem ggX5_value_X0_beginAnew : GoodIn wsX5_value wsX0_beginAnew := goodIn_r _ [53, 54, 18, 55, 56, 57, 58, 28, 59, 60, 61, 62, 14, 63, 27, 29, 64, 65, 66, 67, 68, 69, 70, 71, 72, 22, 73, 26, 25, 74, 75, 76, 77, 78, 79, 80, 81, 82, 83, 84, 85, 86, 87, 88, 89, 90, 91, 92, 93, 94, 95, 96, 97, 98, 99, 100, 101, 102, 103, 104, 105, 106, 107, 108, 112, 113, 114, 115, 116, 117, 118, 119, 120, 125, 126, 127, 121, 122, 123, 124] (by decide +kernel) (by decide +kernel)
set_option maxRecDepth 20000 in
theorem gX5_value_X0_beginAnew : GoodIn wsX5_value (wsV RX5 60 RX0 yX0_beginAnew wsX0_beginAnew) := goodIn_app (goodIn_of _ (by decide +kernel)) ggX5_value_X0_beginAnew
theorem dX5_value_0 : decode cX5_value 0 = .ok (.aload_n 0, 1) := by decide +kernel
theorem dX5_value_1 : decode cX5_value 1 = .ok (.getfield 12, 3) := by decide +kernel
theorem dX5_value_4 : decode cX5_value 4 = .ok (.getfield 23, 3) := by decide +kernel
theorem dX5_value_7 : decode cX5_value 7 = .ok (.iload_n 1, 1) := by decide +kernel
theorem dX5_value_8 : decode cX5_value 8 = .ok (.invokevirtual 37, 3) := by decide +kernel
theorem dX5_value_11 : decode cX5_value 11 = .ok (.ifCond .ne 6, 3) := by decide +kernel
theorem dX5_value_14 : decode cX5_value 14 = .ok (.bipush (-101), 2) := by decide +kernel
theorem dX5_value_16 : decode cX5_value 16 = .ok (.ireturn, 1) := by decide +kernel
theorem dX5_value_17 : decode cX5_value 17 = .ok (.aload_n 0, 1) := by decide +kernel
theorem dX5_value_18 : decode cX5_value 18 = .ok (.getfield 12, 3) := by decide +kernel
theorem dX5_value_21 : decode cX5_value 21 = .ok (.getfield 67, 3) := by decide +kernel
theorem dX5_value_24 : decode cX5_value 24 = .ok (.getfield 71, 3) := by decide +kernel
theorem dX5_value_27 : decode cX5_value 27 = .ok (.iload_n 1, 1) := by decide +kernel
theorem dX5_value_28 : decode cX5_value 28 = .ok (.aaload, 1) := by decide +kernel
theorem dX5_value_29 : decode cX5_value 29 = .ok (.iconst 4, 1) := by decide +kernel
theorem dX5_value_30 : decode cX5_value 30 = .ok (.iaload, 1) := by decide +kernel
theorem dX5_value_31 : decode cX5_value 31 = .ok (.istore_n 3, 1) := by decide +kernel
theorem dX5_value_32 : decode cX5_value 32 = .ok (.aload_n 0, 1) := by decide +kernel
theorem dX5_value_33 : decode cX5_value 33 = .ok (.getfield 12, 3) := by decide +kernel
theorem dX5_value_36 : decode cX5_value 36 = .ok (.iload_n 1, 1) := by decide +kernel
theorem dX5_value_37 : decode cX5_value 37 = .ok (.iconst 4, 1) := by decide +kernel
theorem dX5_value_38 : decode cX5_value 38 = .ok (.iload_n 2, 1) := by decide +kernel
theorem dX5_value_39 : decode cX5_value 39 = .ok (.invokevirtual 77, 3) := by decide +kernel
theorem dX5_value_42 : decode cX5_value 42 = .ok (.aload_n 0, 1) := by decide +kernel
theorem dX5_value_43 : decode cX5_value 43 = .ok (.getfield 12, 3) := by decide +kernel
theorem dX5_value_46 : decode cX5_value 46 = .ok (.invokevirtual 60, 3) := by decide +kernel
theorem dX5_value_49 : decode cX5_value 49 = .ok (.iload_n 3, 1) := by decide +kernel
theorem dX5_value_50 : decode cX5_value 50 = .ok (.ireturn, 1) := by decide +kernel
set_option maxRecDepth 20000 in
theorem ggX5_fault_X3_isNode : GoodIn wsX5_fault wsX3_isNode := goodIn_r _ [8, 9, 127, 128, 129] (by decide +kernel) (by decide +kernel)
set_option maxRecDepth 20000 in
theorem gX5_fault_X3_isNode : GoodIn wsX5_fault (wsV RX5 37 RX3 yX3_isNode wsX3_isNode) := goodIn_app (goodIn_of _ (by decide +kernel)) ggX5_fault_X3_isNode
set_option maxRecDepth 20000 in
theorem ggX5_fault_X3_slotOf : GoodIn wsX5_fault wsX3_slotOf := goodIn_r _ [13, 14, 15, 16, 17, 18, 19, 20, 127, 128, 129] (by decide +kernel) (by decide +kernel)
set_option maxRecDepth 20000 in
theorem gX5_fault_X3_slotOf : GoodIn wsX5_fault (wsV RX5 81 RX3 yX3_slotOf wsX3_slotOf) := goodIn_app (goodIn_of _ (by decide +kernel)) ggX5_fault_X3_slotOf
set_option maxRecDepth 20000 in
theorem ggX5_fault_X0_overwrite : GoodIn wsX5_fault wsX0_overwrite := goodIn_r _ [25, 26, 27, 28, 29, 30, 31, 32, 33, 34, 35, 36, 19, 16, 20, 37, 38, 39, 7, 40, 9, 14, 41, 5, 6, 8, 42, 43, 44, 45, 46, 47, 48, 49, 50, 51, 52, 53, 54, 55, 118, 119, 120, 121, 122, 123, 124, 125, 126, 130, 131, 132, 133, 127, 128, 129] (by decide +kernel) (by decide +kernel)
set_option maxRecDepth 20000 in
theorem gX5_fault_X0_overwrite : GoodIn wsX5_fault (wsV RX5 77 RX0 yX0_overwrite wsX0_overwrite) := goodIn_app (goodIn_of _ (by decide +kernel)) ggX5_fault_X0_overwrite
set_option maxRecDepth 20000 in
theorem ggX5_fault_X0_beginAnew : GoodIn wsX5_fault wsX0_beginAnew := goodIn_r _ [59, 60, 28, 61, 62, 63, 64, 16, 65, 66, 67, 68, 24, 69, 19, 20, 70, 71, 72, 73, 74, 75, 76, 77, 78, 32, 79, 36, 35, 80, 81, 82, 83, 84, 85, 86, 87, 88, 89, 90, 91, 92, 93, 94, 95, 96, 97, 98, 99, 100, 101, 102, 103, 104, 105, 106, 107, 108, 109, 110, 111, 112, 113, 114, 118, 119, 120, 121, 122, 123, 124, 125, 126, 127, 128, 129, 130, 131, 132, 133] (by decide +kernel) (by decide +kernel)
set_option maxRecDepth 20000 in
theorem gX5_fault_X0_beginAnew : GoodIn wsX5_fault (wsV RX5 60 RX0 yX0_beginAnew wsX0_beginAnew) := goodIn_app (goodIn_of _ (by decide +kernel)) ggX5_fault_X0_beginAnew
theorem dX5_fault_0 : decode cX5_fault 0 = .ok (.aload_n 0, 1) := by decide +kernel
theorem dX5_fault_1 : decode cX5_fault 1 = .ok (.getfield 12, 3) := by decide +kernel
theorem dX5_fault_4 : decode cX5_fault 4 = .ok (.getfield 23, 3) := by decide +kernel
theorem dX5_fault_7 : decode cX5_fault 7 = .ok (.iload_n 1, 1) := by decide +kernel
theorem dX5_fault_8 : decode cX5_fault 8 = .ok (.invokevirtual 37, 3) := by decide +kernel
theorem dX5_fault_11 : decode cX5_fault 11 = .ok (.ifCond .ne 6, 3) := by decide +kernel
theorem dX5_fault_14 : decode cX5_fault 14 = .ok (.bipush (-101), 2) := by decide +kernel
theorem dX5_fault_16 : decode cX5_fault 16 = .ok (.ireturn, 1) := by decide +kernel
theorem dX5_fault_17 : decode cX5_fault 17 = .ok (.aload_n 0, 1) := by decide +kernel
theorem dX5_fault_18 : decode cX5_fault 18 = .ok (.getfield 12, 3) := by decide +kernel
theorem dX5_fault_21 : decode cX5_fault 21 = .ok (.getfield 23, 3) := by decide +kernel
theorem dX5_fault_24 : decode cX5_fault 24 = .ok (.iload_n 1, 1) := by decide +kernel
theorem dX5_fault_25 : decode cX5_fault 25 = .ok (.iload_n 2, 1) := by decide +kernel
theorem dX5_fault_26 : decode cX5_fault 26 = .ok (.invokevirtual 81, 3) := by decide +kernel
theorem dX5_fault_29 : decode cX5_fault 29 = .ok (.istore 4, 2) := by decide +kernel
theorem dX5_fault_31 : decode cX5_fault 31 = .ok (.iload 4, 2) := by decide +kernel
theorem dX5_fault_33 : decode cX5_fault 33 = .ok (.iconst (-1), 1) := by decide +kernel
theorem dX5_fault_34 : decode cX5_fault 34 = .ok (.if_icmp .eq 9, 3) := by decide +kernel
theorem dX5_fault_37 : decode cX5_fault 37 = .ok (.iload 4, 2) := by decide +kernel
theorem dX5_fault_39 : decode cX5_fault 39 = .ok (.iconst 4, 1) := by decide +kernel
theorem dX5_fault_40 : decode cX5_fault 40 = .ok (.if_icmp .ne 6, 3) := by decide +kernel
theorem dX5_fault_43 : decode cX5_fault 43 = .ok (.bipush (-102), 2) := by decide +kernel
theorem dX5_fault_45 : decode cX5_fault 45 = .ok (.ireturn, 1) := by decide +kernel
theorem dX5_fault_46 : decode cX5_fault 46 = .ok (.aload_n 0, 1) := by decide +kernel
theorem dX5_fault_47 : decode cX5_fault 47 = .ok (.getfield 12, 3) := by decide +kernel
theorem dX5_fault_50 : decode cX5_fault 50 = .ok (.getfield 41, 3) := by decide +kernel
theorem dX5_fault_53 : decode cX5_fault 53 = .ok (.ifCond .ne 6, 3) := by decide +kernel
theorem dX5_fault_56 : decode cX5_fault 56 = .ok (.bipush (-103), 2) := by decide +kernel
theorem dX5_fault_58 : decode cX5_fault 58 = .ok (.ireturn, 1) := by decide +kernel
theorem dX5_fault_59 : decode cX5_fault 59 = .ok (.aload_n 0, 1) := by decide +kernel
theorem dX5_fault_60 : decode cX5_fault 60 = .ok (.getfield 12, 3) := by decide +kernel
theorem dX5_fault_63 : decode cX5_fault 63 = .ok (.iload_n 1, 1) := by decide +kernel
theorem dX5_fault_64 : decode cX5_fault 64 = .ok (.iload 4, 2) := by decide +kernel
theorem dX5_fault_66 : decode cX5_fault 66 = .ok (.iload_n 3, 1) := by decide +kernel
theorem dX5_fault_67 : decode cX5_fault 67 = .ok (.invokevirtual 77, 3) := by decide +kernel
theorem dX5_fault_70 : decode cX5_fault 70 = .ok (.aload_n 0, 1) := by decide +kernel
theorem dX5_fault_71 : decode cX5_fault 71 = .ok (.getfield 12, 3) := by decide +kernel
theorem dX5_fault_74 : decode cX5_fault 74 = .ok (.invokevirtual 60, 3) := by decide +kernel
theorem dX5_fault_77 : decode cX5_fault 77 = .ok (.iconst 1, 1) := by decide +kernel
theorem dX5_fault_78 : decode cX5_fault 78 = .ok (.ireturn, 1) := by decide +kernel
set_option maxRecDepth 20000 in
theorem ggX5_told_X3_isNode : GoodIn wsX5_told wsX3_isNode := goodIn_r _ [11, 12, 40, 41, 42] (by decide +kernel) (by decide +kernel)
set_option maxRecDepth 20000 in
theorem gX5_told_X3_isNode : GoodIn wsX5_told (wsV RX5 37 RX3 yX3_isNode wsX3_isNode) := goodIn_app (goodIn_of _ (by decide +kernel)) ggX5_told_X3_isNode
set_option maxRecDepth 20000 in
theorem ggX5_told_X3_slotOf : GoodIn wsX5_told wsX3_slotOf := goodIn_r _ [16, 17, 18, 19, 20, 21, 22, 23, 40, 41, 42] (by decide +kernel) (by decide +kernel)
set_option maxRecDepth 20000 in
theorem gX5_told_X3_slotOf : GoodIn wsX5_told (wsV RX5 81 RX3 yX3_slotOf wsX3_slotOf) := goodIn_app (goodIn_of _ (by decide +kernel)) ggX5_told_X3_slotOf
theorem dX5_told_0 : decode cX5_told 0 = .ok (.aload_n 0, 1) := by decide +kernel
theorem dX5_told_1 : decode cX5_told 1 = .ok (.getfield 12, 3) := by decide +kernel
theorem dX5_told_4 : decode cX5_told 4 = .ok (.getfield 23, 3) := by decide +kernel
theorem dX5_told_7 : decode cX5_told 7 = .ok (.iload_n 1, 1) := by decide +kernel
theorem dX5_told_8 : decode cX5_told 8 = .ok (.invokevirtual 37, 3) := by decide +kernel
theorem dX5_told_11 : decode cX5_told 11 = .ok (.ifCond .ne 6, 3) := by decide +kernel
theorem dX5_told_14 : decode cX5_told 14 = .ok (.bipush (-101), 2) := by decide +kernel
theorem dX5_told_16 : decode cX5_told 16 = .ok (.ireturn, 1) := by decide +kernel
theorem dX5_told_17 : decode cX5_told 17 = .ok (.aload_n 0, 1) := by decide +kernel
theorem dX5_told_18 : decode cX5_told 18 = .ok (.getfield 12, 3) := by decide +kernel
theorem dX5_told_21 : decode cX5_told 21 = .ok (.getfield 23, 3) := by decide +kernel
theorem dX5_told_24 : decode cX5_told 24 = .ok (.iload_n 1, 1) := by decide +kernel
theorem dX5_told_25 : decode cX5_told 25 = .ok (.iload_n 2, 1) := by decide +kernel
theorem dX5_told_26 : decode cX5_told 26 = .ok (.invokevirtual 81, 3) := by decide +kernel
theorem dX5_told_29 : decode cX5_told 29 = .ok (.istore_n 3, 1) := by decide +kernel
theorem dX5_told_30 : decode cX5_told 30 = .ok (.iload_n 3, 1) := by decide +kernel
theorem dX5_told_31 : decode cX5_told 31 = .ok (.iconst (-1), 1) := by decide +kernel
theorem dX5_told_32 : decode cX5_told 32 = .ok (.if_icmp .ne 6, 3) := by decide +kernel
theorem dX5_told_35 : decode cX5_told 35 = .ok (.bipush (-102), 2) := by decide +kernel
theorem dX5_told_37 : decode cX5_told 37 = .ok (.ireturn, 1) := by decide +kernel
theorem dX5_told_38 : decode cX5_told 38 = .ok (.iload_n 3, 1) := by decide +kernel
theorem dX5_told_39 : decode cX5_told 39 = .ok (.iconst 5, 1) := by decide +kernel
theorem dX5_told_40 : decode cX5_told 40 = .ok (.if_icmp .lt 16, 3) := by decide +kernel
theorem dX5_told_43 : decode cX5_told 43 = .ok (.aload_n 0, 1) := by decide +kernel
theorem dX5_told_44 : decode cX5_told 44 = .ok (.getfield 12, 3) := by decide +kernel
theorem dX5_told_47 : decode cX5_told 47 = .ok (.getfield 41, 3) := by decide +kernel
theorem dX5_told_50 : decode cX5_told 50 = .ok (.ifCond .ne 6, 3) := by decide +kernel
theorem dX5_told_53 : decode cX5_told 53 = .ok (.bipush (-103), 2) := by decide +kernel
theorem dX5_told_55 : decode cX5_told 55 = .ok (.ireturn, 1) := by decide +kernel
theorem dX5_told_56 : decode cX5_told 56 = .ok (.aload_n 0, 1) := by decide +kernel
theorem dX5_told_57 : decode cX5_told 57 = .ok (.getfield 12, 3) := by decide +kernel
theorem dX5_told_60 : decode cX5_told 60 = .ok (.aload_n 0, 1) := by decide +kernel
theorem dX5_told_61 : decode cX5_told 61 = .ok (.getfield 12, 3) := by decide +kernel
theorem dX5_told_64 : decode cX5_told 64 = .ok (.getfield 67, 3) := by decide +kernel
theorem dX5_told_67 : decode cX5_told 67 = .ok (.getfield 71, 3) := by decide +kernel
theorem dX5_told_70 : decode cX5_told 70 = .ok (.iload_n 1, 1) := by decide +kernel
theorem dX5_told_71 : decode cX5_told 71 = .ok (.aaload, 1) := by decide +kernel
theorem dX5_told_72 : decode cX5_told 72 = .ok (.iload_n 3, 1) := by decide +kernel
theorem dX5_told_73 : decode cX5_told 73 = .ok (.iaload, 1) := by decide +kernel
theorem dX5_told_74 : decode cX5_told 74 = .ok (.putfield 85, 3) := by decide +kernel
theorem dX5_told_77 : decode cX5_told 77 = .ok (.iconst 1, 1) := by decide +kernel
theorem dX5_told_78 : decode cX5_told 78 = .ok (.ireturn, 1) := by decide +kernel
theorem dX5_seen_0 : decode cX5_seen 0 = .ok (.aload_n 0, 1) := by decide +kernel
theorem dX5_seen_1 : decode cX5_seen 1 = .ok (.getfield 12, 3) := by decide +kernel
theorem dX5_seen_4 : decode cX5_seen 4 = .ok (.getfield 85, 3) := by decide +kernel
theorem dX5_seen_7 : decode cX5_seen 7 = .ok (.ireturn, 1) := by decide +kernel
set_option maxRecDepth 20000 in
theorem ggX5_neighbour_X3_isNode : GoodIn wsX5_neighbour wsX3_isNode := goodIn_r _ [8, 9, 29, 30, 31] (by decide +kernel) (by decide +kernel)
set_option maxRecDepth 20000 in
theorem gX5_neighbour_X3_isNode : GoodIn wsX5_neighbour (wsV RX5 37 RX3 yX3_isNode wsX3_isNode) := goodIn_app (goodIn_of _ (by decide +kernel)) ggX5_neighbour_X3_isNode
set_option maxRecDepth 20000 in
theorem ggX5_neighbour_X5_pick : GoodIn wsX5_neighbour wsX5_pick := goodIn_r _ [13, 14, 15, 12, 16] (by decide +kernel) (by decide +kernel)
set_option maxRecDepth 20000 in
theorem gX5_neighbour_X5_pick : GoodIn wsX5_neighbour (va_wsS RX5 88 yX5_pick wsX5_pick) := goodIn_app (goodIn_of _ (by decide +kernel)) ggX5_neighbour_X5_pick
theorem dX5_neighbour_0 : decode cX5_neighbour 0 = .ok (.aload_n 0, 1) := by decide +kernel
theorem dX5_neighbour_1 : decode cX5_neighbour 1 = .ok (.getfield 12, 3) := by decide +kernel
theorem dX5_neighbour_4 : decode cX5_neighbour 4 = .ok (.getfield 23, 3) := by decide +kernel
theorem dX5_neighbour_7 : decode cX5_neighbour 7 = .ok (.iload_n 1, 1) := by decide +kernel
theorem dX5_neighbour_8 : decode cX5_neighbour 8 = .ok (.invokevirtual 37, 3) := by decide +kernel
theorem dX5_neighbour_11 : decode cX5_neighbour 11 = .ok (.ifCond .eq 22, 3) := by decide +kernel
theorem dX5_neighbour_14 : decode cX5_neighbour 14 = .ok (.aload_n 0, 1) := by decide +kernel
theorem dX5_neighbour_15 : decode cX5_neighbour 15 = .ok (.getfield 12, 3) := by decide +kernel
theorem dX5_neighbour_18 : decode cX5_neighbour 18 = .ok (.getfield 23, 3) := by decide +kernel
theorem dX5_neighbour_21 : decode cX5_neighbour 21 = .ok (.getfield 44, 3) := by decide +kernel
theorem dX5_neighbour_24 : decode cX5_neighbour 24 = .ok (.iload_n 1, 1) := by decide +kernel
theorem dX5_neighbour_25 : decode cX5_neighbour 25 = .ok (.iaload, 1) := by decide +kernel
theorem dX5_neighbour_26 : decode cX5_neighbour 26 = .ok (.iload_n 2, 1) := by decide +kernel
theorem dX5_neighbour_27 : decode cX5_neighbour 27 = .ok (.invokestatic 88, 3) := by decide +kernel
theorem dX5_neighbour_30 : decode cX5_neighbour 30 = .ok (.goto 5, 3) := by decide +kernel
theorem dX5_neighbour_33 : decode cX5_neighbour 33 = .ok (.bipush (-101), 2) := by decide +kernel
theorem dX5_neighbour_35 : decode cX5_neighbour 35 = .ok (.ireturn, 1) := by decide +kernel
set_option maxRecDepth 20000 in
theorem ggX5_child_X3_isNode : GoodIn wsX5_child wsX3_isNode := goodIn_r _ [9, 10, 34, 35, 36] (by decide +kernel) (by decide +kernel)
set_option maxRecDepth 20000 in
theorem gX5_child_X3_isNode : GoodIn wsX5_child (wsV RX5 37 RX3 yX3_isNode wsX3_isNode) := goodIn_app (goodIn_of _ (by decide +kernel)) ggX5_child_X3_isNode
set_option maxRecDepth 20000 in
theorem ggX5_child_X5_pick : GoodIn wsX5_child wsX5_pick := goodIn_r _ [14, 15, 16, 13, 17] (by decide +kernel) (by decide +kernel)
set_option maxRecDepth 20000 in
theorem gX5_child_X5_pick : GoodIn wsX5_child (va_wsS RX5 88 yX5_pick wsX5_pick) := goodIn_app (goodIn_of _ (by decide +kernel)) ggX5_child_X5_pick
theorem dX5_child_0 : decode cX5_child 0 = .ok (.aload_n 0, 1) := by decide +kernel
theorem dX5_child_1 : decode cX5_child 1 = .ok (.getfield 12, 3) := by decide +kernel
theorem dX5_child_4 : decode cX5_child 4 = .ok (.getfield 23, 3) := by decide +kernel
theorem dX5_child_7 : decode cX5_child 7 = .ok (.iload_n 1, 1) := by decide +kernel
theorem dX5_child_8 : decode cX5_child 8 = .ok (.invokevirtual 37, 3) := by decide +kernel
theorem dX5_child_11 : decode cX5_child 11 = .ok (.ifCond .eq 22, 3) := by decide +kernel
theorem dX5_child_14 : decode cX5_child 14 = .ok (.aload_n 0, 1) := by decide +kernel
theorem dX5_child_15 : decode cX5_child 15 = .ok (.getfield 12, 3) := by decide +kernel
theorem dX5_child_18 : decode cX5_child 18 = .ok (.getfield 67, 3) := by decide +kernel
theorem dX5_child_21 : decode cX5_child 21 = .ok (.getfield 91, 3) := by decide +kernel
theorem dX5_child_24 : decode cX5_child 24 = .ok (.iload_n 1, 1) := by decide +kernel
theorem dX5_child_25 : decode cX5_child 25 = .ok (.iaload, 1) := by decide +kernel
theorem dX5_child_26 : decode cX5_child 26 = .ok (.iload_n 2, 1) := by decide +kernel
theorem dX5_child_27 : decode cX5_child 27 = .ok (.invokestatic 88, 3) := by decide +kernel
theorem dX5_child_30 : decode cX5_child 30 = .ok (.goto 5, 3) := by decide +kernel
theorem dX5_child_33 : decode cX5_child 33 = .ok (.bipush (-101), 2) := by decide +kernel
theorem dX5_child_35 : decode cX5_child 35 = .ok (.ireturn, 1) := by decide +kernel
set_option maxRecDepth 20000 in
theorem ggX5_enabled_X3_isNode : GoodIn wsX5_enabled wsX3_isNode := goodIn_r _ [8, 9, 75, 76, 77] (by decide +kernel) (by decide +kernel)
set_option maxRecDepth 20000 in
theorem gX5_enabled_X3_isNode : GoodIn wsX5_enabled (wsV RX5 37 RX3 yX3_isNode wsX3_isNode) := goodIn_app (goodIn_of _ (by decide +kernel)) ggX5_enabled_X3_isNode
set_option maxRecDepth 20000 in
theorem ggX5_enabled_X2_firstRule : GoodIn wsX5_enabled wsX2_firstRule := goodIn_r _ [13, 14, 15, 16, 17, 18, 19, 20, 21, 22, 23, 24, 12, 25, 26, 27, 28, 29, 30, 31, 32, 33, 34, 35, 36, 37, 38, 39, 40, 41, 42, 43, 44, 45, 46, 47, 48, 49, 50, 51, 52, 53, 54, 55, 56, 57, 58, 59, 60, 61, 62, 66, 67, 68, 69, 70, 71, 72, 73, 74, 78, 79, 80, 81, 75, 76, 77] (by decide +kernel) (by decide +kernel)
set_option maxRecDepth 20000 in
theorem gX5_enabled_X2_firstRule : GoodIn wsX5_enabled (va_wsS RX5 94 yX2_firstRule wsX2_firstRule) := goodIn_app (goodIn_of _ (by decide +kernel)) ggX5_enabled_X2_firstRule
theorem dX5_enabled_0 : decode cX5_enabled 0 = .ok (.aload_n 0, 1) := by decide +kernel
theorem dX5_enabled_1 : decode cX5_enabled 1 = .ok (.getfield 12, 3) := by decide +kernel
theorem dX5_enabled_4 : decode cX5_enabled 4 = .ok (.getfield 23, 3) := by decide +kernel
theorem dX5_enabled_7 : decode cX5_enabled 7 = .ok (.iload_n 1, 1) := by decide +kernel
theorem dX5_enabled_8 : decode cX5_enabled 8 = .ok (.invokevirtual 37, 3) := by decide +kernel
theorem dX5_enabled_11 : decode cX5_enabled 11 = .ok (.ifCond .ne 6, 3) := by decide +kernel
theorem dX5_enabled_14 : decode cX5_enabled 14 = .ok (.bipush (-101), 2) := by decide +kernel
theorem dX5_enabled_16 : decode cX5_enabled 16 = .ok (.ireturn, 1) := by decide +kernel
theorem dX5_enabled_17 : decode cX5_enabled 17 = .ok (.aload_n 0, 1) := by decide +kernel
theorem dX5_enabled_18 : decode cX5_enabled 18 = .ok (.getfield 12, 3) := by decide +kernel
theorem dX5_enabled_21 : decode cX5_enabled 21 = .ok (.getfield 41, 3) := by decide +kernel
theorem dX5_enabled_24 : decode cX5_enabled 24 = .ok (.ifCond .eq 14, 3) := by decide +kernel
theorem dX5_enabled_27 : decode cX5_enabled 27 = .ok (.aload_n 0, 1) := by decide +kernel
theorem dX5_enabled_28 : decode cX5_enabled 28 = .ok (.getfield 12, 3) := by decide +kernel
theorem dX5_enabled_31 : decode cX5_enabled 31 = .ok (.iload_n 1, 1) := by decide +kernel
theorem dX5_enabled_32 : decode cX5_enabled 32 = .ok (.invokestatic 94, 3) := by decide +kernel
theorem dX5_enabled_35 : decode cX5_enabled 35 = .ok (.goto 5, 3) := by decide +kernel
theorem dX5_enabled_38 : decode cX5_enabled 38 = .ok (.bipush (-103), 2) := by decide +kernel
theorem dX5_enabled_40 : decode cX5_enabled 40 = .ok (.ireturn, 1) := by decide +kernel
set_option maxRecDepth 20000 in
theorem ggX5_rights_X2_rightsInAll : GoodIn wsX5_rights wsX2_rightsInAll := goodIn_r _ [5, 6, 7, 8, 9, 4, 10, 11, 12, 13, 14, 15, 16, 17, 18, 19, 20, 21, 22, 23, 24, 25, 26, 27, 28, 29, 30, 31, 32, 33, 37, 38, 39, 40, 41, 42, 43, 44, 45, 46, 47, 48, 49, 50, 51, 52] (by decide +kernel) (by decide +kernel)
set_option maxRecDepth 20000 in
theorem gX5_rights_X2_rightsInAll : GoodIn wsX5_rights (va_wsS RX5 100 yX2_rightsInAll wsX2_rightsInAll) := goodIn_app (goodIn_of _ (by decide +kernel)) ggX5_rights_X2_rightsInAll
theorem dX5_rights_0 : decode cX5_rights 0 = .ok (.aload_n 0, 1) := by decide +kernel
theorem dX5_rights_1 : decode cX5_rights 1 = .ok (.getfield 12, 3) := by decide +kernel
theorem dX5_rights_4 : decode cX5_rights 4 = .ok (.invokestatic 100, 3) := by decide +kernel
theorem dX5_rights_7 : decode cX5_rights 7 = .ok (.ireturn, 1) := by decide +kernel
set_option maxRecDepth 20000 in
theorem ggX5_holder_X2_rightsOf : GoodIn wsX5_holder wsX2_rightsOf := goodIn_r _ [7, 8, 9, 10, 11, 12, 13, 14, 15, 16, 17, 6, 18, 19, 20, 21, 22, 23, 24, 25, 36, 37, 38, 39, 40, 41, 42, 43, 44, 45, 46, 47, 48, 49, 50, 51] (by decide +kernel) (by decide +kernel)
set_option maxRecDepth 20000 in
theorem gX5_holder_X2_rightsOf : GoodIn wsX5_holder (va_wsS RX5 104 yX2_rightsOf wsX2_rightsOf) := goodIn_app (goodIn_of _ (by decide +kernel)) ggX5_holder_X2_rightsOf
set_option maxRecDepth 20000 in
theorem ggX5_holder_J6_bitCount_0f7a4 : GoodIn wsX5_holder wsJ6_bitCount_0f7a4 := goodIn_r _ [29, 30, 31, 32] (by decide +kernel) (by decide +kernel)
set_option maxRecDepth 20000 in
theorem gX5_holder_J6_bitCount_0f7a4 : GoodIn wsX5_holder (va_wsS RX5 107 yJ6_bitCount_0f7a4 wsJ6_bitCount_0f7a4) := goodIn_app (goodIn_of _ (by decide +kernel)) ggX5_holder_J6_bitCount_0f7a4
theorem dX5_holder_0 : decode cX5_holder 0 = .ok (.iload_n 1, 1) := by decide +kernel
theorem dX5_holder_1 : decode cX5_holder 1 = .ok (.ifCond .ge 5, 3) := by decide +kernel
theorem dX5_holder_4 : decode cX5_holder 4 = .ok (.iconst (-1), 1) := by decide +kernel
theorem dX5_holder_5 : decode cX5_holder 5 = .ok (.ireturn, 1) := by decide +kernel
theorem dX5_holder_6 : decode cX5_holder 6 = .ok (.iload_n 1, 1) := by decide +kernel
theorem dX5_holder_7 : decode cX5_holder 7 = .ok (.istore_n 2, 1) := by decide +kernel
theorem dX5_holder_8 : decode cX5_holder 8 = .ok (.iconst 0, 1) := by decide +kernel
theorem dX5_holder_9 : decode cX5_holder 9 = .ok (.istore_n 3, 1) := by decide +kernel
theorem dX5_holder_10 : decode cX5_holder 10 = .ok (.iload_n 3, 1) := by decide +kernel
theorem dX5_holder_11 : decode cX5_holder 11 = .ok (.aload_n 0, 1) := by decide +kernel
theorem dX5_holder_12 : decode cX5_holder 12 = .ok (.getfield 12, 3) := by decide +kernel
theorem dX5_holder_15 : decode cX5_holder 15 = .ok (.getfield 23, 3) := by decide +kernel
theorem dX5_holder_18 : decode cX5_holder 18 = .ok (.getfield 27, 3) := by decide +kernel
theorem dX5_holder_21 : decode cX5_holder 21 = .ok (.if_icmp .ge 29, 3) := by decide +kernel
theorem dX5_holder_24 : decode cX5_holder 24 = .ok (.iload_n 2, 1) := by decide +kernel
theorem dX5_holder_25 : decode cX5_holder 25 = .ok (.aload_n 0, 1) := by decide +kernel
theorem dX5_holder_26 : decode cX5_holder 26 = .ok (.getfield 12, 3) := by decide +kernel
theorem dX5_holder_29 : decode cX5_holder 29 = .ok (.iload_n 3, 1) := by decide +kernel
theorem dX5_holder_30 : decode cX5_holder 30 = .ok (.invokestatic 104, 3) := by decide +kernel
theorem dX5_holder_33 : decode cX5_holder 33 = .ok (.invokestatic 107, 3) := by decide +kernel
theorem dX5_holder_36 : decode cX5_holder 36 = .ok (.isub, 1) := by decide +kernel
theorem dX5_holder_37 : decode cX5_holder 37 = .ok (.istore_n 2, 1) := by decide +kernel
theorem dX5_holder_38 : decode cX5_holder 38 = .ok (.iload_n 2, 1) := by decide +kernel
theorem dX5_holder_39 : decode cX5_holder 39 = .ok (.ifCond .ge 5, 3) := by decide +kernel
theorem dX5_holder_42 : decode cX5_holder 42 = .ok (.iload_n 3, 1) := by decide +kernel
theorem dX5_holder_43 : decode cX5_holder 43 = .ok (.ireturn, 1) := by decide +kernel
theorem dX5_holder_44 : decode cX5_holder 44 = .ok (.iinc 3 1, 3) := by decide +kernel
theorem dX5_holder_47 : decode cX5_holder 47 = .ok (.goto (-37), 3) := by decide +kernel
theorem dX5_holder_50 : decode cX5_holder 50 = .ok (.iconst (-1), 1) := by decide +kernel
theorem dX5_holder_51 : decode cX5_holder 51 = .ok (.ireturn, 1) := by decide +kernel
set_option maxRecDepth 20000 in
theorem ggX5_next_X3_isNode : GoodIn wsX5_next wsX3_isNode := goodIn_r _ [10, 11, 38, 39, 40] (by decide +kernel) (by decide +kernel)
set_option maxRecDepth 20000 in
theorem gX5_next_X3_isNode : GoodIn wsX5_next (wsV RX5 37 RX3 yX3_isNode wsX3_isNode) := goodIn_app (goodIn_of _ (by decide +kernel)) ggX5_next_X3_isNode
set_option maxRecDepth 20000 in
theorem ggX5_next_X5_has : GoodIn wsX5_next wsX5_has := goodIn_r _ [15] (by decide +kernel) (by decide +kernel)
set_option maxRecDepth 20000 in
theorem gX5_next_X5_has : GoodIn wsX5_next (va_wsS RX5 48 yX5_has wsX5_has) := goodIn_app (goodIn_of _ (by decide +kernel)) ggX5_next_X5_has
set_option maxRecDepth 20000 in
theorem ggX5_next_X5_below : GoodIn wsX5_next wsX5_below := goodIn_r _ [18] (by decide +kernel) (by decide +kernel)
set_option maxRecDepth 20000 in
theorem gX5_next_X5_below : GoodIn wsX5_next (va_wsS RX5 116 yX5_below wsX5_below) := goodIn_app (goodIn_of _ (by decide +kernel)) ggX5_next_X5_below
set_option maxRecDepth 20000 in
theorem ggX5_next_X5_pick : GoodIn wsX5_next wsX5_pick := goodIn_r _ [21, 12, 13, 14, 15] (by decide +kernel) (by decide +kernel)
set_option maxRecDepth 20000 in
theorem gX5_next_X5_pick : GoodIn wsX5_next (va_wsS RX5 88 yX5_pick wsX5_pick) := goodIn_app (goodIn_of _ (by decide +kernel)) ggX5_next_X5_pick
theorem dX5_next_0 : decode cX5_next 0 = .ok (.aload_n 0, 1) := by decide +kernel
theorem dX5_next_1 : decode cX5_next 1 = .ok (.getfield 12, 3) := by decide +kernel
theorem dX5_next_4 : decode cX5_next 4 = .ok (.getfield 23, 3) := by decide +kernel
theorem dX5_next_7 : decode cX5_next 7 = .ok (.iload_n 1, 1) := by decide +kernel
theorem dX5_next_8 : decode cX5_next 8 = .ok (.invokevirtual 37, 3) := by decide +kernel
theorem dX5_next_11 : decode cX5_next 11 = .ok (.ifCond .eq 17, 3) := by decide +kernel
theorem dX5_next_14 : decode cX5_next 14 = .ok (.aload_n 0, 1) := by decide +kernel
theorem dX5_next_15 : decode cX5_next 15 = .ok (.getfield 12, 3) := by decide +kernel
theorem dX5_next_18 : decode cX5_next 18 = .ok (.getfield 23, 3) := by decide +kernel
theorem dX5_next_21 : decode cX5_next 21 = .ok (.iload_n 2, 1) := by decide +kernel
theorem dX5_next_22 : decode cX5_next 22 = .ok (.invokevirtual 37, 3) := by decide +kernel
theorem dX5_next_25 : decode cX5_next 25 = .ok (.ifCond .ne 6, 3) := by decide +kernel
theorem dX5_next_28 : decode cX5_next 28 = .ok (.bipush (-101), 2) := by decide +kernel
theorem dX5_next_30 : decode cX5_next 30 = .ok (.ireturn, 1) := by decide +kernel
theorem dX5_next_31 : decode cX5_next 31 = .ok (.aload_n 0, 1) := by decide +kernel
theorem dX5_next_32 : decode cX5_next 32 = .ok (.getfield 12, 3) := by decide +kernel
theorem dX5_next_35 : decode cX5_next 35 = .ok (.getfield 67, 3) := by decide +kernel
theorem dX5_next_38 : decode cX5_next 38 = .ok (.getfield 113, 3) := by decide +kernel
theorem dX5_next_41 : decode cX5_next 41 = .ok (.iload_n 1, 1) := by decide +kernel
theorem dX5_next_42 : decode cX5_next 42 = .ok (.iaload, 1) := by decide +kernel
theorem dX5_next_43 : decode cX5_next 43 = .ok (.iload_n 2, 1) := by decide +kernel
theorem dX5_next_44 : decode cX5_next 44 = .ok (.invokestatic 48, 3) := by decide +kernel
theorem dX5_next_47 : decode cX5_next 47 = .ok (.ifCond .eq 22, 3) := by decide +kernel
theorem dX5_next_50 : decode cX5_next 50 = .ok (.aload_n 0, 1) := by decide +kernel
theorem dX5_next_51 : decode cX5_next 51 = .ok (.getfield 12, 3) := by decide +kernel
theorem dX5_next_54 : decode cX5_next 54 = .ok (.getfield 67, 3) := by decide +kernel
theorem dX5_next_57 : decode cX5_next 57 = .ok (.getfield 113, 3) := by decide +kernel
theorem dX5_next_60 : decode cX5_next 60 = .ok (.iload_n 2, 1) := by decide +kernel
theorem dX5_next_61 : decode cX5_next 61 = .ok (.iaload, 1) := by decide +kernel
theorem dX5_next_62 : decode cX5_next 62 = .ok (.iload_n 1, 1) := by decide +kernel
theorem dX5_next_63 : decode cX5_next 63 = .ok (.invokestatic 48, 3) := by decide +kernel
theorem dX5_next_66 : decode cX5_next 66 = .ok (.ifCond .ne 6, 3) := by decide +kernel
theorem dX5_next_69 : decode cX5_next 69 = .ok (.bipush (-102), 2) := by decide +kernel
theorem dX5_next_71 : decode cX5_next 71 = .ok (.ireturn, 1) := by decide +kernel
theorem dX5_next_72 : decode cX5_next 72 = .ok (.aload_n 0, 1) := by decide +kernel
theorem dX5_next_73 : decode cX5_next 73 = .ok (.getfield 12, 3) := by decide +kernel
theorem dX5_next_76 : decode cX5_next 76 = .ok (.getfield 41, 3) := by decide +kernel
theorem dX5_next_79 : decode cX5_next 79 = .ok (.ifCond .ne 6, 3) := by decide +kernel
theorem dX5_next_82 : decode cX5_next 82 = .ok (.bipush (-103), 2) := by decide +kernel
theorem dX5_next_84 : decode cX5_next 84 = .ok (.ireturn, 1) := by decide +kernel
theorem dX5_next_85 : decode cX5_next 85 = .ok (.aload_n 0, 1) := by decide +kernel
theorem dX5_next_86 : decode cX5_next 86 = .ok (.getfield 12, 3) := by decide +kernel
theorem dX5_next_89 : decode cX5_next 89 = .ok (.getfield 67, 3) := by decide +kernel
theorem dX5_next_92 : decode cX5_next 92 = .ok (.getfield 113, 3) := by decide +kernel
theorem dX5_next_95 : decode cX5_next 95 = .ok (.iload_n 2, 1) := by decide +kernel
theorem dX5_next_96 : decode cX5_next 96 = .ok (.iaload, 1) := by decide +kernel
theorem dX5_next_97 : decode cX5_next 97 = .ok (.iload_n 1, 1) := by decide +kernel
theorem dX5_next_98 : decode cX5_next 98 = .ok (.iconst 1, 1) := by decide +kernel
theorem dX5_next_99 : decode cX5_next 99 = .ok (.iadd, 1) := by decide +kernel
theorem dX5_next_100 : decode cX5_next 100 = .ok (.invokestatic 116, 3) := by decide +kernel
theorem dX5_next_103 : decode cX5_next 103 = .ok (.iconst (-1), 1) := by decide +kernel
theorem dX5_next_104 : decode cX5_next 104 = .ok (.ixor, 1) := by decide +kernel
theorem dX5_next_105 : decode cX5_next 105 = .ok (.iand, 1) := by decide +kernel
theorem dX5_next_106 : decode cX5_next 106 = .ok (.istore_n 3, 1) := by decide +kernel
theorem dX5_next_107 : decode cX5_next 107 = .ok (.iload_n 3, 1) := by decide +kernel
theorem dX5_next_108 : decode cX5_next 108 = .ok (.ifCond .ne 18, 3) := by decide +kernel
theorem dX5_next_111 : decode cX5_next 111 = .ok (.aload_n 0, 1) := by decide +kernel
theorem dX5_next_112 : decode cX5_next 112 = .ok (.getfield 12, 3) := by decide +kernel
theorem dX5_next_115 : decode cX5_next 115 = .ok (.getfield 67, 3) := by decide +kernel
theorem dX5_next_118 : decode cX5_next 118 = .ok (.getfield 113, 3) := by decide +kernel
theorem dX5_next_121 : decode cX5_next 121 = .ok (.iload_n 2, 1) := by decide +kernel
theorem dX5_next_122 : decode cX5_next 122 = .ok (.iaload, 1) := by decide +kernel
theorem dX5_next_123 : decode cX5_next 123 = .ok (.goto 4, 3) := by decide +kernel
theorem dX5_next_126 : decode cX5_next 126 = .ok (.iload_n 3, 1) := by decide +kernel
theorem dX5_next_127 : decode cX5_next 127 = .ok (.iconst 0, 1) := by decide +kernel
theorem dX5_next_128 : decode cX5_next 128 = .ok (.invokestatic 88, 3) := by decide +kernel
theorem dX5_next_131 : decode cX5_next 131 = .ok (.ireturn, 1) := by decide +kernel
set_option maxRecDepth 20000 in
theorem ggX5_step_X0_act : GoodIn wsX5_step wsX0_act := goodIn_r _ [7, 8, 9, 10, 11, 12, 13, 14, 15, 16, 17, 18, 19, 20, 21, 22, 23, 24, 25, 26, 27, 28, 29, 30, 31, 32, 33, 34, 35, 36, 37, 38, 39, 40, 41, 42, 43, 44, 45, 46, 47, 48, 49, 50, 51, 52, 53, 54, 55, 56, 57, 58, 59, 60, 61, 62, 63, 64, 65, 66, 67, 68, 69, 70, 71, 72, 73, 74, 75, 76, 77, 78, 79, 80, 81, 82, 83, 84, 85, 86, 87, 88, 89, 90, 91, 92, 93, 94, 95, 96, 97, 98, 99, 100, 101, 102, 103, 104, 105, 106, 107, 108, 109, 110, 111, 112, 113, 114, 115, 116, 117, 118, 119, 120, 121, 122, 123, 124, 125, 126, 127, 128, 129, 130, 131, 132, 133, 134, 135, 6, 136, 137, 138, 139, 140, 141, 142, 143, 144, 145, 146, 147, 148, 149, 150, 154, 155, 156, 157, 158, 159, 160, 161, 162, 163, 164, 165, 166, 167, 168, 169, 170, 171, 172, 173, 174, 175] (by decide +kernel) (by decide +kernel)
set_option maxRecDepth 20000 in
theorem gX5_step_X0_act : GoodIn wsX5_step (wsV RX5 119 RX0 yX0_act wsX0_act) := goodIn_app (goodIn_of _ (by decide +kernel)) ggX5_step_X0_act
theorem dX5_step_0 : decode cX5_step 0 = .ok (.aload_n 0, 1) := by decide +kernel
theorem dX5_step_1 : decode cX5_step 1 = .ok (.getfield 12, 3) := by decide +kernel
theorem dX5_step_4 : decode cX5_step 4 = .ok (.getfield 41, 3) := by decide +kernel
theorem dX5_step_7 : decode cX5_step 7 = .ok (.ifCond .eq 14, 3) := by decide +kernel
theorem dX5_step_10 : decode cX5_step 10 = .ok (.aload_n 0, 1) := by decide +kernel
theorem dX5_step_11 : decode cX5_step 11 = .ok (.getfield 12, 3) := by decide +kernel
theorem dX5_step_14 : decode cX5_step 14 = .ok (.iload_n 1, 1) := by decide +kernel
theorem dX5_step_15 : decode cX5_step 15 = .ok (.invokevirtual 119, 3) := by decide +kernel
theorem dX5_step_18 : decode cX5_step 18 = .ok (.goto 5, 3) := by decide +kernel
theorem dX5_step_21 : decode cX5_step 21 = .ok (.bipush (-103), 2) := by decide +kernel
theorem dX5_step_23 : decode cX5_step 23 = .ok (.ireturn, 1) := by decide +kernel
set_option maxRecDepth 20000 in
theorem ggX5_run_X5_isWay : GoodIn wsX5_run wsX5_isWay := goodIn_r _ [6] (by decide +kernel) (by decide +kernel)
set_option maxRecDepth 20000 in
theorem gX5_run_X5_isWay : GoodIn wsX5_run (va_wsS RX5 122 yX5_isWay wsX5_isWay) := goodIn_app (goodIn_of _ (by decide +kernel)) ggX5_run_X5_isWay
set_option maxRecDepth 20000 in
theorem ggX5_run_X0_choose : GoodIn wsX5_run wsX0_choose := goodIn_r _ [11, 12, 13, 5, 14, 15, 16, 17, 10, 18, 19, 20, 21, 22, 23, 24, 25, 26, 27, 172, 173, 174, 175, 176, 177, 178, 179, 180, 181, 182, 183] (by decide +kernel) (by decide +kernel)
set_option maxRecDepth 20000 in
theorem gX5_run_X0_choose : GoodIn wsX5_run (wsV RX5 125 RX0 yX0_choose wsX0_choose) := goodIn_app (goodIn_of _ (by decide +kernel)) ggX5_run_X0_choose
set_option maxRecDepth 20000 in
theorem ggX5_run_X0_act : GoodIn wsX5_run wsX0_act := goodIn_r _ [31, 12, 20, 21, 32, 33, 34, 35, 5, 36, 37, 38, 39, 40, 41, 42, 43, 44, 45, 46, 47, 48, 49, 50, 51, 52, 53, 54, 55, 56, 57, 58, 59, 60, 61, 62, 63, 64, 65, 66, 67, 68, 69, 70, 71, 72, 73, 74, 75, 76, 77, 78, 79, 80, 81, 82, 83, 84, 13, 14, 85, 86, 87, 88, 89, 90, 91, 92, 93, 94, 95, 96, 97, 98, 99, 100, 101, 102, 103, 104, 105, 106, 107, 108, 109, 110, 111, 112, 113, 114, 115, 116, 117, 118, 119, 120, 121, 122, 123, 124, 125, 126, 127, 128, 129, 130, 131, 132, 133, 134, 135, 136, 137, 138, 139, 140, 141, 142, 143, 144, 145, 146, 147, 148, 149, 150, 151, 152, 153, 10, 154, 155, 156, 157, 158, 159, 160, 161, 162, 163, 164, 165, 166, 167, 168, 172, 173, 174, 175, 176, 177, 178, 179, 180, 181, 182, 183, 184, 185, 186, 187, 188, 189, 190, 191, 192, 193] (by decide +kernel) (by decide +kernel)
set_option maxRecDepth 20000 in
theorem gX5_run_X0_act : GoodIn wsX5_run (wsV RX5 119 RX0 yX0_act wsX0_act) := goodIn_app (goodIn_of _ (by decide +kernel)) ggX5_run_X0_act
theorem dX5_run_0 : decode cX5_run 0 = .ok (.iload_n 1, 1) := by decide +kernel
theorem dX5_run_1 : decode cX5_run 1 = .ok (.invokestatic 122, 3) := by decide +kernel
theorem dX5_run_4 : decode cX5_run 4 = .ok (.ifCond .eq 14, 3) := by decide +kernel
theorem dX5_run_7 : decode cX5_run 7 = .ok (.iload_n 2, 1) := by decide +kernel
theorem dX5_run_8 : decode cX5_run 8 = .ok (.ifCond .lt 10, 3) := by decide +kernel
theorem dX5_run_11 : decode cX5_run 11 = .ok (.iload_n 2, 1) := by decide +kernel
theorem dX5_run_12 : decode cX5_run 12 = .ok (.sipush 300, 3) := by decide +kernel
theorem dX5_run_15 : decode cX5_run 15 = .ok (.if_icmp .le 6, 3) := by decide +kernel
theorem dX5_run_18 : decode cX5_run 18 = .ok (.bipush (-102), 2) := by decide +kernel
theorem dX5_run_20 : decode cX5_run 20 = .ok (.ireturn, 1) := by decide +kernel
theorem dX5_run_21 : decode cX5_run 21 = .ok (.aload_n 0, 1) := by decide +kernel
theorem dX5_run_22 : decode cX5_run 22 = .ok (.getfield 12, 3) := by decide +kernel
theorem dX5_run_25 : decode cX5_run 25 = .ok (.getfield 41, 3) := by decide +kernel
theorem dX5_run_28 : decode cX5_run 28 = .ok (.ifCond .ne 6, 3) := by decide +kernel
theorem dX5_run_31 : decode cX5_run 31 = .ok (.bipush (-103), 2) := by decide +kernel
theorem dX5_run_33 : decode cX5_run 33 = .ok (.ireturn, 1) := by decide +kernel
theorem dX5_run_34 : decode cX5_run 34 = .ok (.iconst 0, 1) := by decide +kernel
theorem dX5_run_35 : decode cX5_run 35 = .ok (.istore_n 3, 1) := by decide +kernel
theorem dX5_run_36 : decode cX5_run 36 = .ok (.iconst 0, 1) := by decide +kernel
theorem dX5_run_37 : decode cX5_run 37 = .ok (.istore 4, 2) := by decide +kernel
theorem dX5_run_39 : decode cX5_run 39 = .ok (.iload 4, 2) := by decide +kernel
theorem dX5_run_41 : decode cX5_run 41 = .ok (.iload_n 2, 1) := by decide +kernel
theorem dX5_run_42 : decode cX5_run 42 = .ok (.if_icmp .ge 27, 3) := by decide +kernel
theorem dX5_run_45 : decode cX5_run 45 = .ok (.iload_n 3, 1) := by decide +kernel
theorem dX5_run_46 : decode cX5_run 46 = .ok (.aload_n 0, 1) := by decide +kernel
theorem dX5_run_47 : decode cX5_run 47 = .ok (.getfield 12, 3) := by decide +kernel
theorem dX5_run_50 : decode cX5_run 50 = .ok (.aload_n 0, 1) := by decide +kernel
theorem dX5_run_51 : decode cX5_run 51 = .ok (.getfield 12, 3) := by decide +kernel
theorem dX5_run_54 : decode cX5_run 54 = .ok (.iload_n 1, 1) := by decide +kernel
theorem dX5_run_55 : decode cX5_run 55 = .ok (.invokevirtual 125, 3) := by decide +kernel
theorem dX5_run_58 : decode cX5_run 58 = .ok (.invokevirtual 119, 3) := by decide +kernel
theorem dX5_run_61 : decode cX5_run 61 = .ok (.iadd, 1) := by decide +kernel
theorem dX5_run_62 : decode cX5_run 62 = .ok (.istore_n 3, 1) := by decide +kernel
theorem dX5_run_63 : decode cX5_run 63 = .ok (.iinc 4 1, 3) := by decide +kernel
theorem dX5_run_66 : decode cX5_run 66 = .ok (.goto (-27), 3) := by decide +kernel
theorem dX5_run_69 : decode cX5_run 69 = .ok (.iload_n 3, 1) := by decide +kernel
theorem dX5_run_70 : decode cX5_run 70 = .ok (.ireturn, 1) := by decide +kernel
theorem dX5_dice_0 : decode cX5_dice 0 = .ok (.aload_n 0, 1) := by decide +kernel
theorem dX5_dice_1 : decode cX5_dice 1 = .ok (.getfield 12, 3) := by decide +kernel
theorem dX5_dice_4 : decode cX5_dice 4 = .ok (.getfield 128, 3) := by decide +kernel
theorem dX5_dice_7 : decode cX5_dice 7 = .ok (.istore_n 2, 1) := by decide +kernel
theorem dX5_dice_8 : decode cX5_dice 8 = .ok (.aload_n 0, 1) := by decide +kernel
theorem dX5_dice_9 : decode cX5_dice 9 = .ok (.getfield 12, 3) := by decide +kernel
theorem dX5_dice_12 : decode cX5_dice 12 = .ok (.iload_n 1, 1) := by decide +kernel
theorem dX5_dice_13 : decode cX5_dice 13 = .ok (.putfield 128, 3) := by decide +kernel
theorem dX5_dice_16 : decode cX5_dice 16 = .ok (.iload_n 2, 1) := by decide +kernel
theorem dX5_dice_17 : decode cX5_dice 17 = .ok (.ireturn, 1) := by decide +kernel
set_option maxRecDepth 20000 in
theorem ggX5_settle_X5_isWay : GoodIn wsX5_settle wsX5_isWay := goodIn_r _ [6] (by decide +kernel) (by decide +kernel)
set_option maxRecDepth 20000 in
theorem gX5_settle_X5_isWay : GoodIn wsX5_settle (va_wsS RX5 122 yX5_isWay wsX5_isWay) := goodIn_app (goodIn_of _ (by decide +kernel)) ggX5_settle_X5_isWay
set_option maxRecDepth 20000 in
theorem ggX5_settle_X0_isAtRest : GoodIn wsX5_settle wsX0_isAtRest := goodIn_r _ [11, 12, 13, 14, 15, 16, 17, 18, 19, 20, 21, 22, 23, 24, 25, 26, 5, 27, 28, 29, 30, 31, 32, 33, 34, 35, 36, 37, 38, 39, 40, 41, 42, 43, 44, 45, 46, 47, 48, 49, 50, 51, 52, 53, 54, 55, 56, 57, 58, 59, 60, 61, 62, 63, 189, 190, 191, 192, 193, 194, 195, 196, 197, 198, 199, 200, 201, 202, 203, 204] (by decide +kernel) (by decide +kernel)
set_option maxRecDepth 20000 in
theorem gX5_settle_X0_isAtRest : GoodIn wsX5_settle (wsV RX5 131 RX0 yX0_isAtRest wsX0_isAtRest) := goodIn_app (goodIn_of _ (by decide +kernel)) ggX5_settle_X0_isAtRest
set_option maxRecDepth 20000 in
theorem ggX5_settle_X0_choose : GoodIn wsX5_settle wsX0_choose := goodIn_r _ [67, 68, 52, 5, 53, 69, 70, 71, 10, 72, 73, 13, 14, 74, 75, 76, 77, 78, 79, 189, 190, 191, 192, 193, 194, 195, 196, 197, 198, 199, 200] (by decide +kernel) (by decide +kernel)
set_option maxRecDepth 20000 in
theorem gX5_settle_X0_choose : GoodIn wsX5_settle (wsV RX5 125 RX0 yX0_choose wsX0_choose) := goodIn_app (goodIn_of _ (by decide +kernel)) ggX5_settle_X0_choose
set_option maxRecDepth 20000 in
theorem ggX5_settle_X0_act : GoodIn wsX5_settle wsX0_act := goodIn_r _ [83, 68, 13, 14, 15, 84, 85, 26, 5, 27, 86, 87, 37, 88, 89, 90, 91, 44, 46, 92, 29, 30, 31, 32, 33, 34, 93, 94, 95, 39, 40, 96, 97, 98, 99, 100, 101, 102, 103, 104, 105, 106, 107, 108, 109, 110, 111, 112, 113, 41, 42, 43, 45, 47, 48, 49, 50, 51, 52, 53, 54, 55, 56, 114, 115, 116, 117, 118, 119, 120, 121, 122, 123, 124, 125, 126, 127, 128, 129, 130, 131, 132, 133, 134, 135, 136, 137, 138, 139, 140, 141, 142, 143, 144, 21, 145, 23, 146, 147, 148, 149, 150, 151, 152, 153, 154, 24, 155, 156, 157, 158, 159, 160, 161, 162, 163, 164, 165, 166, 167, 168, 169, 170, 171, 172, 173, 174, 175, 176, 10, 177, 178, 179, 180, 181, 182, 183, 184, 185, 58, 59, 60, 61, 62, 63, 189, 190, 191, 192, 193, 194, 195, 196, 197, 198, 199, 200, 205, 206, 207, 208, 209, 210, 201, 202, 203, 204] (by decide +kernel) (by decide +kernel)
set_option maxRecDepth 20000 in
theorem gX5_settle_X0_act : GoodIn wsX5_settle (wsV RX5 119 RX0 yX0_act wsX0_act) := goodIn_app (goodIn_of _ (by decide +kernel)) ggX5_settle_X0_act
theorem dX5_settle_0 : decode cX5_settle 0 = .ok (.iload_n 1, 1) := by decide +kernel
theorem dX5_settle_1 : decode cX5_settle 1 = .ok (.invokestatic 122, 3) := by decide +kernel
theorem dX5_settle_4 : decode cX5_settle 4 = .ok (.ifCond .eq 14, 3) := by decide +kernel
theorem dX5_settle_7 : decode cX5_settle 7 = .ok (.iload_n 2, 1) := by decide +kernel
theorem dX5_settle_8 : decode cX5_settle 8 = .ok (.ifCond .lt 10, 3) := by decide +kernel
theorem dX5_settle_11 : decode cX5_settle 11 = .ok (.iload_n 2, 1) := by decide +kernel
theorem dX5_settle_12 : decode cX5_settle 12 = .ok (.sipush 2000, 3) := by decide +kernel
theorem dX5_settle_15 : decode cX5_settle 15 = .ok (.if_icmp .le 6, 3) := by decide +kernel
theorem dX5_settle_18 : decode cX5_settle 18 = .ok (.bipush (-102), 2) := by decide +kernel
theorem dX5_settle_20 : decode cX5_settle 20 = .ok (.ireturn, 1) := by decide +kernel
theorem dX5_settle_21 : decode cX5_settle 21 = .ok (.aload_n 0, 1) := by decide +kernel
theorem dX5_settle_22 : decode cX5_settle 22 = .ok (.getfield 12, 3) := by decide +kernel
theorem dX5_settle_25 : decode cX5_settle 25 = .ok (.getfield 41, 3) := by decide +kernel
theorem dX5_settle_28 : decode cX5_settle 28 = .ok (.ifCond .ne 6, 3) := by decide +kernel
theorem dX5_settle_31 : decode cX5_settle 31 = .ok (.bipush (-103), 2) := by decide +kernel
theorem dX5_settle_33 : decode cX5_settle 33 = .ok (.ireturn, 1) := by decide +kernel
theorem dX5_settle_34 : decode cX5_settle 34 = .ok (.iconst 0, 1) := by decide +kernel
theorem dX5_settle_35 : decode cX5_settle 35 = .ok (.istore_n 3, 1) := by decide +kernel
theorem dX5_settle_36 : decode cX5_settle 36 = .ok (.iload_n 3, 1) := by decide +kernel
theorem dX5_settle_37 : decode cX5_settle 37 = .ok (.iload_n 2, 1) := by decide +kernel
theorem dX5_settle_38 : decode cX5_settle 38 = .ok (.if_icmp .ge 37, 3) := by decide +kernel
theorem dX5_settle_41 : decode cX5_settle 41 = .ok (.aload_n 0, 1) := by decide +kernel
theorem dX5_settle_42 : decode cX5_settle 42 = .ok (.getfield 12, 3) := by decide +kernel
theorem dX5_settle_45 : decode cX5_settle 45 = .ok (.invokevirtual 131, 3) := by decide +kernel
theorem dX5_settle_48 : decode cX5_settle 48 = .ok (.ifCond .eq 5, 3) := by decide +kernel
theorem dX5_settle_51 : decode cX5_settle 51 = .ok (.iload_n 3, 1) := by decide +kernel
theorem dX5_settle_52 : decode cX5_settle 52 = .ok (.ireturn, 1) := by decide +kernel
theorem dX5_settle_53 : decode cX5_settle 53 = .ok (.aload_n 0, 1) := by decide +kernel
theorem dX5_settle_54 : decode cX5_settle 54 = .ok (.getfield 12, 3) := by decide +kernel
theorem dX5_settle_57 : decode cX5_settle 57 = .ok (.aload_n 0, 1) := by decide +kernel
theorem dX5_settle_58 : decode cX5_settle 58 = .ok (.getfield 12, 3) := by decide +kernel
theorem dX5_settle_61 : decode cX5_settle 61 = .ok (.iload_n 1, 1) := by decide +kernel
theorem dX5_settle_62 : decode cX5_settle 62 = .ok (.invokevirtual 125, 3) := by decide +kernel
theorem dX5_settle_65 : decode cX5_settle 65 = .ok (.invokevirtual 119, 3) := by decide +kernel
theorem dX5_settle_68 : decode cX5_settle 68 = .ok (.pop, 1) := by decide +kernel
theorem dX5_settle_69 : decode cX5_settle 69 = .ok (.iinc 3 1, 3) := by decide +kernel
theorem dX5_settle_72 : decode cX5_settle 72 = .ok (.goto (-36), 3) := by decide +kernel
theorem dX5_settle_75 : decode cX5_settle 75 = .ok (.aload_n 0, 1) := by decide +kernel
