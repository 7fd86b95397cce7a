theorem dX5_settle_76 : decode cX5_settle 76 = .ok (.getfield 12, 3) := by decide +kernel
theorem dX5_settle_79 : decode cX5_settle 79 = .ok (.invokevirtual 131, 3) := by decide +kernel
theorem dX5_settle_82 : decode cX5_settle 82 = .ok (.ifCond .eq 7, 3) := by decide +kernel
theorem dX5_settle_85 : decode cX5_settle 85 = .ok (.iload_n 2, 1) := by decide +kernel
theorem dX5_settle_86 : decode cX5_settle 86 = .ok (.goto 6, 3) := by decide +kernel
theorem dX5_settle_89 : decode cX5_settle 89 = .ok (.iconst (-1), 1) := by decide +kernel
theorem dX5_settle_90 : decode cX5_settle 90 = .ok (.iload_n 2, 1) := by decide +kernel
theorem dX5_settle_91 : decode cX5_settle 91 = .ok (.isub, 1) := by decide +kernel
theorem dX5_settle_92 : decode cX5_settle 92 = .ok (.ireturn, 1) := by decide +kernel
set_option maxRecDepth 20000 in
theorem ggX5_rest_X0_isAtRest : GoodIn wsX5_rest wsX0_isAtRest := goodIn_r _ [6, 7, 8, 9, 10, 11, 12, 13, 14, 15, 16, 17, 18, 19, 20, 21, 22, 23, 24, 25, 26, 27, 28, 29, 30, 31, 32, 33, 34, 35, 36, 37, 38, 39, 40, 41, 42, 43, 44, 45, 46, 47, 48, 49, 50, 51, 52, 53, 54, 55, 56, 57, 58, 59, 63, 64, 65, 66, 67, 68, 69, 70, 71, 72, 73, 74, 75, 76, 77, 78] (by decide +kernel) (by decide +kernel)
set_option maxRecDepth 20000 in
theorem gX5_rest_X0_isAtRest : GoodIn wsX5_rest (wsV RX5 131 RX0 yX0_isAtRest wsX0_isAtRest) := goodIn_app (goodIn_of _ (by decide +kernel)) ggX5_rest_X0_isAtRest
theorem dX5_rest_0 : decode cX5_rest 0 = .ok (.aload_n 0, 1) := by decide +kernel
theorem dX5_rest_1 : decode cX5_rest 1 = .ok (.getfield 12, 3) := by decide +kernel
theorem dX5_rest_4 : decode cX5_rest 4 = .ok (.invokevirtual 131, 3) := by decide +kernel
theorem dX5_rest_7 : decode cX5_rest 7 = .ok (.ifCond .eq 7, 3) := by decide +kernel
theorem dX5_rest_10 : decode cX5_rest 10 = .ok (.iconst 1, 1) := by decide +kernel
theorem dX5_rest_11 : decode cX5_rest 11 = .ok (.goto 4, 3) := by decide +kernel
theorem dX5_rest_14 : decode cX5_rest 14 = .ok (.iconst 0, 1) := by decide +kernel
theorem dX5_rest_15 : decode cX5_rest 15 = .ok (.ireturn, 1) := by decide +kernel
set_option maxRecDepth 20000 in
theorem ggX5_distance_X3_isNode : GoodIn wsX5_distance wsX3_isNode := goodIn_r _ [8, 9, 22, 23, 24] (by decide +kernel) (by decide +kernel)
set_option maxRecDepth 20000 in
theorem gX5_distance_X3_isNode : GoodIn wsX5_distance (wsV RX5 37 RX3 yX3_isNode wsX3_isNode) := goodIn_app (goodIn_of _ (by decide +kernel)) ggX5_distance_X3_isNode
theorem dX5_distance_0 : decode cX5_distance 0 = .ok (.aload_n 0, 1) := by decide +kernel
theorem dX5_distance_1 : decode cX5_distance 1 = .ok (.getfield 12, 3) := by decide +kernel
theorem dX5_distance_4 : decode cX5_distance 4 = .ok (.getfield 23, 3) := by decide +kernel
theorem dX5_distance_7 : decode cX5_distance 7 = .ok (.iload_n 1, 1) := by decide +kernel
theorem dX5_distance_8 : decode cX5_distance 8 = .ok (.invokevirtual 37, 3) := by decide +kernel
theorem dX5_distance_11 : decode cX5_distance 11 = .ok (.ifCond .eq 18, 3) := by decide +kernel
theorem dX5_distance_14 : decode cX5_distance 14 = .ok (.aload_n 0, 1) := by decide +kernel
theorem dX5_distance_15 : decode cX5_distance 15 = .ok (.getfield 12, 3) := by decide +kernel
theorem dX5_distance_18 : decode cX5_distance 18 = .ok (.getfield 23, 3) := by decide +kernel
theorem dX5_distance_21 : decode cX5_distance 21 = .ok (.getfield 134, 3) := by decide +kernel
theorem dX5_distance_24 : decode cX5_distance 24 = .ok (.iload_n 1, 1) := by decide +kernel
theorem dX5_distance_25 : decode cX5_distance 25 = .ok (.iaload, 1) := by decide +kernel
theorem dX5_distance_26 : decode cX5_distance 26 = .ok (.goto 5, 3) := by decide +kernel
theorem dX5_distance_29 : decode cX5_distance 29 = .ok (.bipush (-101), 2) := by decide +kernel
theorem dX5_distance_31 : decode cX5_distance 31 = .ok (.ireturn, 1) := by decide +kernel
theorem dX5_wave_0 : decode cX5_wave 0 = .ok (.aload_n 0, 1) := by decide +kernel
theorem dX5_wave_1 : decode cX5_wave 1 = .ok (.getfield 12, 3) := by decide +kernel
theorem dX5_wave_4 : decode cX5_wave 4 = .ok (.aload_n 0, 1) := by decide +kernel
theorem dX5_wave_5 : decode cX5_wave 5 = .ok (.getfield 12, 3) := by decide +kernel
theorem dX5_wave_8 : decode cX5_wave 8 = .ok (.getfield 137, 3) := by decide +kernel
theorem dX5_wave_11 : decode cX5_wave 11 = .ok (.getfield 141, 3) := by decide +kernel
theorem dX5_wave_14 : decode cX5_wave 14 = .ok (.putfield 85, 3) := by decide +kernel
theorem dX5_wave_17 : decode cX5_wave 17 = .ok (.aload_n 0, 1) := by decide +kernel
theorem dX5_wave_18 : decode cX5_wave 18 = .ok (.getfield 12, 3) := by decide +kernel
theorem dX5_wave_21 : decode cX5_wave 21 = .ok (.getfield 137, 3) := by decide +kernel
theorem dX5_wave_24 : decode cX5_wave 24 = .ok (.getfield 146, 3) := by decide +kernel
theorem dX5_wave_27 : decode cX5_wave 27 = .ok (.ireturn, 1) := by decide +kernel
set_option maxRecDepth 20000 in
theorem ggX5_entries_X3_isNode : GoodIn wsX5_entries wsX3_isNode := goodIn_r _ [9, 10, 29, 30, 31] (by decide +kernel) (by decide +kernel)
set_option maxRecDepth 20000 in
theorem gX5_entries_X3_isNode : GoodIn wsX5_entries (wsV RX5 37 RX3 yX3_isNode wsX3_isNode) := goodIn_app (goodIn_of _ (by decide +kernel)) ggX5_entries_X3_isNode
theorem dX5_entries_0 : decode cX5_entries 0 = .ok (.aload_n 0, 1) := by decide +kernel
theorem dX5_entries_1 : decode cX5_entries 1 = .ok (.getfield 12, 3) := by decide +kernel
theorem dX5_entries_4 : decode cX5_entries 4 = .ok (.getfield 23, 3) := by decide +kernel
theorem dX5_entries_7 : decode cX5_entries 7 = .ok (.iload_n 1, 1) := by decide +kernel
theorem dX5_entries_8 : decode cX5_entries 8 = .ok (.invokevirtual 37, 3) := by decide +kernel
theorem dX5_entries_11 : decode cX5_entries 11 = .ok (.ifCond .eq 18, 3) := by decide +kernel
theorem dX5_entries_14 : decode cX5_entries 14 = .ok (.aload_n 0, 1) := by decide +kernel
theorem dX5_entries_15 : decode cX5_entries 15 = .ok (.getfield 12, 3) := by decide +kernel
theorem dX5_entries_18 : decode cX5_entries 18 = .ok (.getfield 137, 3) := by decide +kernel
theorem dX5_entries_21 : decode cX5_entries 21 = .ok (.getfield 149, 3) := by decide +kernel
theorem dX5_entries_24 : decode cX5_entries 24 = .ok (.iload_n 1, 1) := by decide +kernel
theorem dX5_entries_25 : decode cX5_entries 25 = .ok (.iaload, 1) := by decide +kernel
theorem dX5_entries_26 : decode cX5_entries 26 = .ok (.goto 5, 3) := by decide +kernel
theorem dX5_entries_29 : decode cX5_entries 29 = .ok (.bipush (-101), 2) := by decide +kernel
theorem dX5_entries_31 : decode cX5_entries 31 = .ok (.ireturn, 1) := by decide +kernel
set_option maxRecDepth 20000 in
theorem ggX5_count_X3_linkCount : GoodIn wsX5_count wsX3_linkCount := goodIn_r _ [13, 14, 15, 16, 17, 18, 19, 20, 21, 22, 35, 36, 37] (by decide +kernel) (by decide +kernel)
set_option maxRecDepth 20000 in
theorem gX5_count_X3_linkCount : GoodIn wsX5_count (wsV RX5 63 RX3 yX3_linkCount wsX3_linkCount) := goodIn_app (goodIn_of _ (by decide +kernel)) ggX5_count_X3_linkCount
theorem dX5_count_0 : decode cX5_count 0 = .ok (.iload_n 1, 1) := by decide +kernel
theorem dX5_count_1 : decode cX5_count 1 = .ok (.tableswitch 163 0 8 #[51, 62, 73, 84, 95, 111, 124, 137, 150], 51) := by decide +kernel
theorem dX5_count_52 : decode cX5_count 52 = .ok (.aload_n 0, 1) := by decide +kernel
theorem dX5_count_53 : decode cX5_count 53 = .ok (.getfield 12, 3) := by decide +kernel
theorem dX5_count_56 : decode cX5_count 56 = .ok (.getfield 23, 3) := by decide +kernel
theorem dX5_count_59 : decode cX5_count 59 = .ok (.getfield 27, 3) := by decide +kernel
theorem dX5_count_62 : decode cX5_count 62 = .ok (.ireturn, 1) := by decide +kernel
theorem dX5_count_63 : decode cX5_count 63 = .ok (.aload_n 0, 1) := by decide +kernel
theorem dX5_count_64 : decode cX5_count 64 = .ok (.getfield 12, 3) := by decide +kernel
theorem dX5_count_67 : decode cX5_count 67 = .ok (.getfield 23, 3) := by decide +kernel
theorem dX5_count_70 : decode cX5_count 70 = .ok (.invokevirtual 63, 3) := by decide +kernel
theorem dX5_count_73 : decode cX5_count 73 = .ok (.ireturn, 1) := by decide +kernel
theorem dX5_count_74 : decode cX5_count 74 = .ok (.aload_n 0, 1) := by decide +kernel
theorem dX5_count_75 : decode cX5_count 75 = .ok (.getfield 12, 3) := by decide +kernel
theorem dX5_count_78 : decode cX5_count 78 = .ok (.getfield 137, 3) := by decide +kernel
theorem dX5_count_81 : decode cX5_count 81 = .ok (.getfield 152, 3) := by decide +kernel
theorem dX5_count_84 : decode cX5_count 84 = .ok (.ireturn, 1) := by decide +kernel
theorem dX5_count_85 : decode cX5_count 85 = .ok (.aload_n 0, 1) := by decide +kernel
theorem dX5_count_86 : decode cX5_count 86 = .ok (.getfield 12, 3) := by decide +kernel
theorem dX5_count_89 : decode cX5_count 89 = .ok (.getfield 137, 3) := by decide +kernel
theorem dX5_count_92 : decode cX5_count 92 = .ok (.getfield 155, 3) := by decide +kernel
theorem dX5_count_95 : decode cX5_count 95 = .ok (.ireturn, 1) := by decide +kernel
theorem dX5_count_96 : decode cX5_count 96 = .ok (.aload_n 0, 1) := by decide +kernel
theorem dX5_count_97 : decode cX5_count 97 = .ok (.getfield 12, 3) := by decide +kernel
theorem dX5_count_100 : decode cX5_count 100 = .ok (.getfield 41, 3) := by decide +kernel
theorem dX5_count_103 : decode cX5_count 103 = .ok (.ifCond .eq 7, 3) := by decide +kernel
theorem dX5_count_106 : decode cX5_count 106 = .ok (.iconst 1, 1) := by decide +kernel
theorem dX5_count_107 : decode cX5_count 107 = .ok (.goto 4, 3) := by decide +kernel
theorem dX5_count_110 : decode cX5_count 110 = .ok (.iconst 0, 1) := by decide +kernel
theorem dX5_count_111 : decode cX5_count 111 = .ok (.ireturn, 1) := by decide +kernel
theorem dX5_count_112 : decode cX5_count 112 = .ok (.aload_n 0, 1) := by decide +kernel
theorem dX5_count_113 : decode cX5_count 113 = .ok (.getfield 12, 3) := by decide +kernel
theorem dX5_count_116 : decode cX5_count 116 = .ok (.getfield 137, 3) := by decide +kernel
theorem dX5_count_119 : decode cX5_count 119 = .ok (.getfield 158, 3) := by decide +kernel
theorem dX5_count_122 : decode cX5_count 122 = .ok (.iconst 0, 1) := by decide +kernel
theorem dX5_count_123 : decode cX5_count 123 = .ok (.iaload, 1) := by decide +kernel
theorem dX5_count_124 : decode cX5_count 124 = .ok (.ireturn, 1) := by decide +kernel
theorem dX5_count_125 : decode cX5_count 125 = .ok (.aload_n 0, 1) := by decide +kernel
theorem dX5_count_126 : decode cX5_count 126 = .ok (.getfield 12, 3) := by decide +kernel
theorem dX5_count_129 : decode cX5_count 129 = .ok (.getfield 137, 3) := by decide +kernel
theorem dX5_count_132 : decode cX5_count 132 = .ok (.getfield 158, 3) := by decide +kernel
theorem dX5_count_135 : decode cX5_count 135 = .ok (.iconst 1, 1) := by decide +kernel
theorem dX5_count_136 : decode cX5_count 136 = .ok (.iaload, 1) := by decide +kernel
theorem dX5_count_137 : decode cX5_count 137 = .ok (.ireturn, 1) := by decide +kernel
theorem dX5_count_138 : decode cX5_count 138 = .ok (.aload_n 0, 1) := by decide +kernel
theorem dX5_count_139 : decode cX5_count 139 = .ok (.getfield 12, 3) := by decide +kernel
theorem dX5_count_142 : decode cX5_count 142 = .ok (.getfield 137, 3) := by decide +kernel
theorem dX5_count_145 : decode cX5_count 145 = .ok (.getfield 158, 3) := by decide +kernel
theorem dX5_count_148 : decode cX5_count 148 = .ok (.iconst 2, 1) := by decide +kernel
theorem dX5_count_149 : decode cX5_count 149 = .ok (.iaload, 1) := by decide +kernel
theorem dX5_count_150 : decode cX5_count 150 = .ok (.ireturn, 1) := by decide +kernel
theorem dX5_count_151 : decode cX5_count 151 = .ok (.aload_n 0, 1) := by decide +kernel
theorem dX5_count_152 : decode cX5_count 152 = .ok (.getfield 12, 3) := by decide +kernel
theorem dX5_count_155 : decode cX5_count 155 = .ok (.getfield 137, 3) := by decide +kernel
theorem dX5_count_158 : decode cX5_count 158 = .ok (.getfield 158, 3) := by decide +kernel
theorem dX5_count_161 : decode cX5_count 161 = .ok (.iconst 3, 1) := by decide +kernel
theorem dX5_count_162 : decode cX5_count 162 = .ok (.iaload, 1) := by decide +kernel
theorem dX5_count_163 : decode cX5_count 163 = .ok (.ireturn, 1) := by decide +kernel
theorem dX5_count_164 : decode cX5_count 164 = .ok (.bipush (-102), 2) := by decide +kernel
theorem dX5_count_166 : decode cX5_count 166 = .ok (.ireturn, 1) := by decide +kernel
set_option maxRecDepth 20000 in
theorem ggX5_keep_X0_copyFrom : GoodIn wsX5_keep wsX0_copyFrom := goodIn_r _ [8, 9, 10, 11, 12, 13, 14, 15, 16, 17, 18, 19, 20, 21, 22, 23, 24, 25, 26, 27, 28, 29, 30, 31, 32, 33, 34, 35, 36, 37, 38, 39, 40, 41, 42, 43, 44, 45, 46, 47, 48, 49, 50, 51, 55, 56, 57, 58, 59, 60, 61, 62, 63, 64, 65, 66, 67, 68, 69, 70, 71, 72, 73, 74, 75, 76] (by decide +kernel) (by decide +kernel)
set_option maxRecDepth 20000 in
theorem gX5_keep_X0_copyFrom : GoodIn wsX5_keep (wsV RX5 161 RX0 yX0_copyFrom wsX0_copyFrom) := goodIn_app (goodIn_of _ (by decide +kernel)) ggX5_keep_X0_copyFrom
theorem dX5_keep_0 : decode cX5_keep 0 = .ok (.aload_n 0, 1) := by decide +kernel
theorem dX5_keep_1 : decode cX5_keep 1 = .ok (.getfield 16, 3) := by decide +kernel
theorem dX5_keep_4 : decode cX5_keep 4 = .ok (.aload_n 0, 1) := by decide +kernel
theorem dX5_keep_5 : decode cX5_keep 5 = .ok (.getfield 12, 3) := by decide +kernel
theorem dX5_keep_8 : decode cX5_keep 8 = .ok (.invokevirtual 161, 3) := by decide +kernel
theorem dX5_keep_11 : decode cX5_keep 11 = .ok (.aload_n 0, 1) := by decide +kernel
theorem dX5_keep_12 : decode cX5_keep 12 = .ok (.iconst 1, 1) := by decide +kernel
theorem dX5_keep_13 : decode cX5_keep 13 = .ok (.putfield 19, 3) := by decide +kernel
theorem dX5_keep_16 : decode cX5_keep 16 = .ok (.iconst 1, 1) := by decide +kernel
theorem dX5_keep_17 : decode cX5_keep 17 = .ok (.ireturn, 1) := by decide +kernel
set_option maxRecDepth 20000 in
theorem ggX5_back_X0_copyFrom : GoodIn wsX5_back wsX0_copyFrom := goodIn_r _ [8, 9, 10, 11, 12, 13, 14, 15, 16, 17, 18, 19, 20, 21, 22, 23, 24, 25, 26, 27, 28, 29, 30, 31, 32, 33, 34, 35, 36, 37, 38, 39, 40, 41, 42, 43, 44, 45, 46, 47, 48, 49, 50, 51, 55, 56, 57, 58, 59, 60, 61, 62, 63, 64, 65, 66, 67, 68, 69, 70, 71, 72, 73, 74, 75, 76] (by decide +kernel) (by decide +kernel)
set_option maxRecDepth 20000 in
theorem gX5_back_X0_copyFrom : GoodIn wsX5_back (wsV RX5 161 RX0 yX0_copyFrom wsX0_copyFrom) := goodIn_app (goodIn_of _ (by decide +kernel)) ggX5_back_X0_copyFrom
theorem dX5_back_0 : decode cX5_back 0 = .ok (.aload_n 0, 1) := by decide +kernel
theorem dX5_back_1 : decode cX5_back 1 = .ok (.getfield 19, 3) := by decide +kernel
theorem dX5_back_4 : decode cX5_back 4 = .ok (.ifCond .ne 6, 3) := by decide +kernel
theorem dX5_back_7 : decode cX5_back 7 = .ok (.bipush (-103), 2) := by decide +kernel
theorem dX5_back_9 : decode cX5_back 9 = .ok (.ireturn, 1) := by decide +kernel
theorem dX5_back_10 : decode cX5_back 10 = .ok (.aload_n 0, 1) := by decide +kernel
theorem dX5_back_11 : decode cX5_back 11 = .ok (.getfield 12, 3) := by decide +kernel
theorem dX5_back_14 : decode cX5_back 14 = .ok (.aload_n 0, 1) := by decide +kernel
theorem dX5_back_15 : decode cX5_back 15 = .ok (.getfield 16, 3) := by decide +kernel
theorem dX5_back_18 : decode cX5_back 18 = .ok (.invokevirtual 161, 3) := by decide +kernel
theorem dX5_back_21 : decode cX5_back 21 = .ok (.iconst 1, 1) := by decide +kernel
theorem dX5_back_22 : decode cX5_back 22 = .ok (.ireturn, 1) := by decide +kernel
set_option maxRecDepth 20000 in
theorem ggX5_digest_X5_mix : GoodIn wsX5_digest wsX5_mix := goodIn_r _ [10, 11] (by decide +kernel) (by decide +kernel)
set_option maxRecDepth 20000 in
theorem gX5_digest_X5_mix : GoodIn wsX5_digest (va_wsS RX5 167 yX5_mix wsX5_mix) := goodIn_app (goodIn_of _ (by decide +kernel)) ggX5_digest_X5_mix
set_option maxRecDepth 20000 in
theorem ggX5_digest_X5_mixNode : GoodIn wsX5_digest wsX5_mixNode := goodIn_r _ [15, 2, 16, 17, 3, 4, 18, 19, 20, 7, 8, 9, 10, 11, 21, 22, 23, 24, 25, 26, 27, 28, 29, 30, 31, 32, 33, 34, 35, 39, 40, 41, 42, 36, 37, 38, 43, 44, 45, 46, 47, 48] (by decide +kernel) (by decide +kernel)
set_option maxRecDepth 20000 in
theorem gX5_digest_X5_mixNode : GoodIn wsX5_digest (wsV RX5 171 RX5 yX5_mixNode wsX5_mixNode) := goodIn_app (goodIn_of _ (by decide +kernel)) ggX5_digest_X5_mixNode
theorem dX5_digest_0 : decode cX5_digest 0 = .ok (.ldc2_w 165, 3) := by decide +kernel
theorem dX5_digest_3 : decode cX5_digest 3 = .ok (.aload_n 0, 1) := by decide +kernel
theorem dX5_digest_4 : decode cX5_digest 4 = .ok (.getfield 12, 3) := by decide +kernel
theorem dX5_digest_7 : decode cX5_digest 7 = .ok (.getfield 23, 3) := by decide +kernel
theorem dX5_digest_10 : decode cX5_digest 10 = .ok (.getfield 27, 3) := by decide +kernel
theorem dX5_digest_13 : decode cX5_digest 13 = .ok (.invokestatic 167, 3) := by decide +kernel
theorem dX5_digest_16 : decode cX5_digest 16 = .ok (.aload_n 0, 1) := by decide +kernel
theorem dX5_digest_17 : decode cX5_digest 17 = .ok (.getfield 12, 3) := by decide +kernel
theorem dX5_digest_20 : decode cX5_digest 20 = .ok (.getfield 41, 3) := by decide +kernel
theorem dX5_digest_23 : decode cX5_digest 23 = .ok (.ifCond .eq 7, 3) := by decide +kernel
theorem dX5_digest_26 : decode cX5_digest 26 = .ok (.iconst 1, 1) := by decide +kernel
theorem dX5_digest_27 : decode cX5_digest 27 = .ok (.goto 4, 3) := by decide +kernel
theorem dX5_digest_30 : decode cX5_digest 30 = .ok (.iconst 0, 1) := by decide +kernel
theorem dX5_digest_31 : decode cX5_digest 31 = .ok (.invokestatic 167, 3) := by decide +kernel
theorem dX5_digest_34 : decode cX5_digest 34 = .ok (.lstore_n 1, 1) := by decide +kernel
theorem dX5_digest_35 : decode cX5_digest 35 = .ok (.iconst 0, 1) := by decide +kernel
theorem dX5_digest_36 : decode cX5_digest 36 = .ok (.istore_n 3, 1) := by decide +kernel
theorem dX5_digest_37 : decode cX5_digest 37 = .ok (.iload_n 3, 1) := by decide +kernel
theorem dX5_digest_38 : decode cX5_digest 38 = .ok (.aload_n 0, 1) := by decide +kernel
theorem dX5_digest_39 : decode cX5_digest 39 = .ok (.getfield 12, 3) := by decide +kernel
theorem dX5_digest_42 : decode cX5_digest 42 = .ok (.getfield 23, 3) := by decide +kernel
theorem dX5_digest_45 : decode cX5_digest 45 = .ok (.getfield 27, 3) := by decide +kernel
theorem dX5_digest_48 : decode cX5_digest 48 = .ok (.if_icmp .ge 16, 3) := by decide +kernel
theorem dX5_digest_51 : decode cX5_digest 51 = .ok (.aload_n 0, 1) := by decide +kernel
theorem dX5_digest_52 : decode cX5_digest 52 = .ok (.lload_n 1, 1) := by decide +kernel
theorem dX5_digest_53 : decode cX5_digest 53 = .ok (.iload_n 3, 1) := by decide +kernel
theorem dX5_digest_54 : decode cX5_digest 54 = .ok (.invokevirtual 171, 3) := by decide +kernel
theorem dX5_digest_57 : decode cX5_digest 57 = .ok (.lstore_n 1, 1) := by decide +kernel
theorem dX5_digest_58 : decode cX5_digest 58 = .ok (.iinc 3 1, 3) := by decide +kernel
theorem dX5_digest_61 : decode cX5_digest 61 = .ok (.goto (-24), 3) := by decide +kernel
theorem dX5_digest_64 : decode cX5_digest 64 = .ok (.lload_n 1, 1) := by decide +kernel
theorem dX5_digest_65 : decode cX5_digest 65 = .ok (.aload_n 0, 1) := by decide +kernel
theorem dX5_digest_66 : decode cX5_digest 66 = .ok (.getfield 12, 3) := by decide +kernel
theorem dX5_digest_69 : decode cX5_digest 69 = .ok (.getfield 128, 3) := by decide +kernel
theorem dX5_digest_72 : decode cX5_digest 72 = .ok (.invokestatic 167, 3) := by decide +kernel
theorem dX5_digest_75 : decode cX5_digest 75 = .ok (.lreturn, 1) := by decide +kernel
set_option maxRecDepth 20000 in
theorem ggX5_mixNode_X5_mix : GoodIn wsX5_mixNode wsX5_mix := goodIn_r _ [12, 13] (by decide +kernel) (by decide +kernel)
set_option maxRecDepth 20000 in
theorem gX5_mixNode_X5_mix : GoodIn wsX5_mixNode (va_wsS RX5 167 yX5_mix wsX5_mix) := goodIn_app (goodIn_of _ (by decide +kernel)) ggX5_mixNode_X5_mix
set_option maxRecDepth 20000 in
theorem ggX5_mixNode_X5_has : GoodIn wsX5_mixNode wsX5_has := goodIn_r _ [16] (by decide +kernel) (by decide +kernel)
set_option maxRecDepth 20000 in
theorem gX5_mixNode_X5_has : GoodIn wsX5_mixNode (va_wsS RX5 48 yX5_has wsX5_has) := goodIn_app (goodIn_of _ (by decide +kernel)) ggX5_mixNode_X5_has
theorem dX5_mixNode_0 : decode cX5_mixNode 0 = .ok (.aload_n 0, 1) := by decide +kernel
theorem dX5_mixNode_1 : decode cX5_mixNode 1 = .ok (.getfield 12, 3) := by decide +kernel
theorem dX5_mixNode_4 : decode cX5_mixNode 4 = .ok (.getfield 67, 3) := by decide +kernel
theorem dX5_mixNode_7 : decode cX5_mixNode 7 = .ok (.getfield 71, 3) := by decide +kernel
theorem dX5_mixNode_10 : decode cX5_mixNode 10 = .ok (.iload_n 3, 1) := by decide +kernel
theorem dX5_mixNode_11 : decode cX5_mixNode 11 = .ok (.aaload, 1) := by decide +kernel
theorem dX5_mixNode_12 : decode cX5_mixNode 12 = .ok (.astore 4, 2) := by decide +kernel
theorem dX5_mixNode_14 : decode cX5_mixNode 14 = .ok (.lload_n 1, 1) := by decide +kernel
theorem dX5_mixNode_15 : decode cX5_mixNode 15 = .ok (.lstore 5, 2) := by decide +kernel
theorem dX5_mixNode_17 : decode cX5_mixNode 17 = .ok (.iconst 0, 1) := by decide +kernel
theorem dX5_mixNode_18 : decode cX5_mixNode 18 = .ok (.istore 7, 2) := by decide +kernel
theorem dX5_mixNode_20 : decode cX5_mixNode 20 = .ok (.iload 7, 2) := by decide +kernel
theorem dX5_mixNode_22 : decode cX5_mixNode 22 = .ok (.iconst 5, 1) := by decide +kernel
theorem dX5_mixNode_23 : decode cX5_mixNode 23 = .ok (.if_icmp .ge 21, 3) := by decide +kernel
theorem dX5_mixNode_26 : decode cX5_mixNode 26 = .ok (.lload 5, 2) := by decide +kernel
theorem dX5_mixNode_28 : decode cX5_mixNode 28 = .ok (.aload 4, 2) := by decide +kernel
theorem dX5_mixNode_30 : decode cX5_mixNode 30 = .ok (.iload 7, 2) := by decide +kernel
theorem dX5_mixNode_32 : decode cX5_mixNode 32 = .ok (.iaload, 1) := by decide +kernel
theorem dX5_mixNode_33 : decode cX5_mixNode 33 = .ok (.invokestatic 167, 3) := by decide +kernel
theorem dX5_mixNode_36 : decode cX5_mixNode 36 = .ok (.lstore 5, 2) := by decide +kernel
theorem dX5_mixNode_38 : decode cX5_mixNode 38 = .ok (.iinc 7 1, 3) := by decide +kernel
theorem dX5_mixNode_41 : decode cX5_mixNode 41 = .ok (.goto (-21), 3) := by decide +kernel
theorem dX5_mixNode_44 : decode cX5_mixNode 44 = .ok (.iconst 0, 1) := by decide +kernel
theorem dX5_mixNode_45 : decode cX5_mixNode 45 = .ok (.istore 7, 2) := by decide +kernel
theorem dX5_mixNode_47 : decode cX5_mixNode 47 = .ok (.iload 7, 2) := by decide +kernel
theorem dX5_mixNode_49 : decode cX5_mixNode 49 = .ok (.aload_n 0, 1) := by decide +kernel
theorem dX5_mixNode_50 : decode cX5_mixNode 50 = .ok (.getfield 12, 3) := by decide +kernel
theorem dX5_mixNode_53 : decode cX5_mixNode 53 = .ok (.getfield 23, 3) := by decide +kernel
theorem dX5_mixNode_56 : decode cX5_mixNode 56 = .ok (.getfield 27, 3) := by decide +kernel
theorem dX5_mixNode_59 : decode cX5_mixNode 59 = .ok (.if_icmp .ge 48, 3) := by decide +kernel
theorem dX5_mixNode_62 : decode cX5_mixNode 62 = .ok (.aload_n 0, 1) := by decide +kernel
theorem dX5_mixNode_63 : decode cX5_mixNode 63 = .ok (.getfield 12, 3) := by decide +kernel
theorem dX5_mixNode_66 : decode cX5_mixNode 66 = .ok (.getfield 23, 3) := by decide +kernel
theorem dX5_mixNode_69 : decode cX5_mixNode 69 = .ok (.getfield 44, 3) := by decide +kernel
theorem dX5_mixNode_72 : decode cX5_mixNode 72 = .ok (.iload_n 3, 1) := by decide +kernel
theorem dX5_mixNode_73 : decode cX5_mixNode 73 = .ok (.iaload, 1) := by decide +kernel
theorem dX5_mixNode_74 : decode cX5_mixNode 74 = .ok (.iload 7, 2) := by decide +kernel
theorem dX5_mixNode_76 : decode cX5_mixNode 76 = .ok (.invokestatic 48, 3) := by decide +kernel
theorem dX5_mixNode_79 : decode cX5_mixNode 79 = .ok (.ifCond .eq 22, 3) := by decide +kernel
theorem dX5_mixNode_82 : decode cX5_mixNode 82 = .ok (.lload 5, 2) := by decide +kernel
theorem dX5_mixNode_84 : decode cX5_mixNode 84 = .ok (.iload 7, 2) := by decide +kernel
theorem dX5_mixNode_86 : decode cX5_mixNode 86 = .ok (.invokestatic 167, 3) := by decide +kernel
theorem dX5_mixNode_89 : decode cX5_mixNode 89 = .ok (.aload 4, 2) := by decide +kernel
theorem dX5_mixNode_91 : decode cX5_mixNode 91 = .ok (.iconst 5, 1) := by decide +kernel
theorem dX5_mixNode_92 : decode cX5_mixNode 92 = .ok (.iload 7, 2) := by decide +kernel
theorem dX5_mixNode_94 : decode cX5_mixNode 94 = .ok (.iadd, 1) := by decide +kernel
theorem dX5_mixNode_95 : decode cX5_mixNode 95 = .ok (.iaload, 1) := by decide +kernel
theorem dX5_mixNode_96 : decode cX5_mixNode 96 = .ok (.invokestatic 167, 3) := by decide +kernel
theorem dX5_mixNode_99 : decode cX5_mixNode 99 = .ok (.lstore 5, 2) := by decide +kernel
theorem dX5_mixNode_101 : decode cX5_mixNode 101 = .ok (.iinc 7 1, 3) := by decide +kernel
theorem dX5_mixNode_104 : decode cX5_mixNode 104 = .ok (.goto (-57), 3) := by decide +kernel
theorem dX5_mixNode_107 : decode cX5_mixNode 107 = .ok (.lload 5, 2) := by decide +kernel
theorem dX5_mixNode_109 : decode cX5_mixNode 109 = .ok (.aload_n 0, 1) := by decide +kernel
theorem dX5_mixNode_110 : decode cX5_mixNode 110 = .ok (.getfield 12, 3) := by decide +kernel
theorem dX5_mixNode_113 : decode cX5_mixNode 113 = .ok (.getfield 137, 3) := by decide +kernel
theorem dX5_mixNode_116 : decode cX5_mixNode 116 = .ok (.getfield 149, 3) := by decide +kernel
theorem dX5_mixNode_119 : decode cX5_mixNode 119 = .ok (.iload_n 3, 1) := by decide +kernel
theorem dX5_mixNode_120 : decode cX5_mixNode 120 = .ok (.iaload, 1) := by decide +kernel
theorem dX5_mixNode_121 : decode cX5_mixNode 121 = .ok (.invokestatic 167, 3) := by decide +kernel
theorem dX5_mixNode_124 : decode cX5_mixNode 124 = .ok (.lreturn, 1) := by decide +kernel
theorem dX5_mix_0 : decode cX5_mix 0 = .ok (.ldc2_w 174, 3) := by decide +kernel
theorem dX5_mix_3 : decode cX5_mix 3 = .ok (.lload_n 0, 1) := by decide +kernel
theorem dX5_mix_4 : decode cX5_mix 4 = .ok (.lmul, 1) := by decide +kernel
theorem dX5_mix_5 : decode cX5_mix 5 = .ok (.iload_n 2, 1) := by decide +kernel
theorem dX5_mix_6 : decode cX5_mix 6 = .ok (.i2l, 1) := by decide +kernel
theorem dX5_mix_7 : decode cX5_mix 7 = .ok (.ladd, 1) := by decide +kernel
theorem dX5_mix_8 : decode cX5_mix 8 = .ok (.lreturn, 1) := by decide +kernel
theorem dX5_isWay_0 : decode cX5_isWay 0 = .ok (.iload_n 0, 1) := by decide +kernel
theorem dX5_isWay_1 : decode cX5_isWay 1 = .ok (.ifCond .lt 12, 3) := by decide +kernel
theorem dX5_isWay_4 : decode cX5_isWay 4 = .ok (.iload_n 0, 1) := by decide +kernel
theorem dX5_isWay_5 : decode cX5_isWay 5 = .ok (.iconst 4, 1) := by decide +kernel
theorem dX5_isWay_6 : decode cX5_isWay 6 = .ok (.if_icmp .gt 7, 3) := by decide +kernel
theorem dX5_isWay_9 : decode cX5_isWay 9 = .ok (.iconst 1, 1) := by decide +kernel
theorem dX5_isWay_10 : decode cX5_isWay 10 = .ok (.goto 4, 3) := by decide +kernel
theorem dX5_isWay_13 : decode cX5_isWay 13 = .ok (.iconst 0, 1) := by decide +kernel
theorem dX5_isWay_14 : decode cX5_isWay 14 = .ok (.ireturn, 1) := by decide +kernel
theorem dX5_has_0 : decode cX5_has 0 = .ok (.iload_n 0, 1) := by decide +kernel
theorem dX5_has_1 : decode cX5_has 1 = .ok (.iload_n 1, 1) := by decide +kernel
theorem dX5_has_2 : decode cX5_has 2 = .ok (.ishr, 1) := by decide +kernel
theorem dX5_has_3 : decode cX5_has 3 = .ok (.iconst 1, 1) := by decide +kernel
theorem dX5_has_4 : decode cX5_has 4 = .ok (.iand, 1) := by decide +kernel
theorem dX5_has_5 : decode cX5_has 5 = .ok (.iconst 1, 1) := by decide +kernel
theorem dX5_has_6 : decode cX5_has 6 = .ok (.if_icmp .ne 7, 3) := by decide +kernel
theorem dX5_has_9 : decode cX5_has 9 = .ok (.iconst 1, 1) := by decide +kernel
theorem dX5_has_10 : decode cX5_has 10 = .ok (.goto 4, 3) := by decide +kernel
theorem dX5_has_13 : decode cX5_has 13 = .ok (.iconst 0, 1) := by decide +kernel
theorem dX5_has_14 : decode cX5_has 14 = .ok (.ireturn, 1) := by decide +kernel
set_option maxRecDepth 20000 in
theorem ggX5_pick_X5_has : GoodIn wsX5_pick wsX5_has := goodIn_r _ [4] (by decide +kernel) (by decide +kernel)
set_option maxRecDepth 20000 in
theorem gX5_pick_X5_has : GoodIn wsX5_pick (va_wsS RX5 48 yX5_has wsX5_has) := goodIn_app (goodIn_of _ (by decide +kernel)) ggX5_pick_X5_has
theorem dX5_pick_0 : decode cX5_pick 0 = .ok (.iload_n 1, 1) := by decide +kernel
theorem dX5_pick_1 : decode cX5_pick 1 = .ok (.istore_n 2, 1) := by decide +kernel
theorem dX5_pick_2 : decode cX5_pick 2 = .ok (.iconst 0, 1) := by decide +kernel
theorem dX5_pick_3 : decode cX5_pick 3 = .ok (.istore_n 3, 1) := by decide +kernel
theorem dX5_pick_4 : decode cX5_pick 4 = .ok (.iload_n 3, 1) := by decide +kernel
theorem dX5_pick_5 : decode cX5_pick 5 = .ok (.bipush 12, 2) := by decide +kernel
theorem dX5_pick_7 : decode cX5_pick 7 = .ok (.if_icmp .ge 26, 3) := by decide +kernel
theorem dX5_pick_10 : decode cX5_pick 10 = .ok (.iload_n 0, 1) := by decide +kernel
theorem dX5_pick_11 : decode cX5_pick 11 = .ok (.iload_n 3, 1) := by decide +kernel
theorem dX5_pick_12 : decode cX5_pick 12 = .ok (.invokestatic 48, 3) := by decide +kernel
theorem dX5_pick_15 : decode cX5_pick 15 = .ok (.ifCond .eq 12, 3) := by decide +kernel
theorem dX5_pick_18 : decode cX5_pick 18 = .ok (.iload_n 2, 1) := by decide +kernel
theorem dX5_pick_19 : decode cX5_pick 19 = .ok (.ifCond .ne 5, 3) := by decide +kernel
theorem dX5_pick_22 : decode cX5_pick 22 = .ok (.iload_n 3, 1) := by decide +kernel
theorem dX5_pick_23 : decode cX5_pick 23 = .ok (.ireturn, 1) := by decide +kernel
theorem dX5_pick_24 : decode cX5_pick 24 = .ok (.iinc 2 (-1), 3) := by decide +kernel
theorem dX5_pick_27 : decode cX5_pick 27 = .ok (.iinc 3 1, 3) := by decide +kernel
theorem dX5_pick_30 : decode cX5_pick 30 = .ok (.goto (-26), 3) := by decide +kernel
theorem dX5_pick_33 : decode cX5_pick 33 = .ok (.iconst (-1), 1) := by decide +kernel
theorem dX5_pick_34 : decode cX5_pick 34 = .ok (.ireturn, 1) := by decide +kernel
theorem dX5_greatest_0 : decode cX5_greatest 0 = .ok (.bipush 11, 2) := by decide +kernel
theorem dX5_greatest_2 : decode cX5_greatest 2 = .ok (.istore_n 1, 1) := by decide +kernel
theorem dX5_greatest_3 : decode cX5_greatest 3 = .ok (.iload_n 1, 1) := by decide +kernel
theorem dX5_greatest_4 : decode cX5_greatest 4 = .ok (.ifCond .lt 18, 3) := by decide +kernel
theorem dX5_greatest_7 : decode cX5_greatest 7 = .ok (.iload_n 0, 1) := by decide +kernel
theorem dX5_greatest_8 : decode cX5_greatest 8 = .ok (.iconst 1, 1) := by decide +kernel
theorem dX5_greatest_9 : decode cX5_greatest 9 = .ok (.iload_n 1, 1) := by decide +kernel
theorem dX5_greatest_10 : decode cX5_greatest 10 = .ok (.ishl, 1) := by decide +kernel
theorem dX5_greatest_11 : decode cX5_greatest 11 = .ok (.if_icmp .lt 5, 3) := by decide +kernel
theorem dX5_greatest_14 : decode cX5_greatest 14 = .ok (.iload_n 1, 1) := by decide +kernel
theorem dX5_greatest_15 : decode cX5_greatest 15 = .ok (.ireturn, 1) := by decide +kernel
theorem dX5_greatest_16 : decode cX5_greatest 16 = .ok (.iinc 1 (-1), 3) := by decide +kernel
theorem dX5_greatest_19 : decode cX5_greatest 19 = .ok (.goto (-16), 3) := by decide +kernel
theorem dX5_greatest_22 : decode cX5_greatest 22 = .ok (.iconst (-1), 1) := by decide +kernel
theorem dX5_greatest_23 : decode cX5_greatest 23 = .ok (.ireturn, 1) := by decide +kernel
theorem dX5_below_0 : decode cX5_below 0 = .ok (.iconst 1, 1) := by decide +kernel
theorem dX5_below_1 : decode cX5_below 1 = .ok (.iload_n 0, 1) := by decide +kernel
theorem dX5_below_2 : decode cX5_below 2 = .ok (.ishl, 1) := by decide +kernel
theorem dX5_below_3 : decode cX5_below 3 = .ok (.iconst 1, 1) := by decide +kernel
theorem dX5_below_4 : decode cX5_below 4 = .ok (.isub, 1) := by decide +kernel
theorem dX5_below_5 : decode cX5_below 5 = .ok (.ireturn, 1) := by decide +kernel
theorem dX6_init_0 : decode cX6_init 0 = .ok (.aload_n 0, 1) := by decide +kernel
theorem dX6_init_1 : decode cX6_init 1 = .ok (.invokespecial 1, 3) := by decide +kernel
theorem dX6_init_4 : decode cX6_init 4 = .ok (.aload_n 0, 1) := by decide +kernel
theorem dX6_init_5 : decode cX6_init 5 = .ok (.sipush 374, 3) := by decide +kernel
theorem dX6_init_8 : decode cX6_init 8 = .ok (.newarray .int, 2) := by decide +kernel
theorem dX6_init_10 : decode cX6_init 10 = .ok (.putfield 7, 3) := by decide +kernel
theorem dX6_init_13 : decode cX6_init 13 = .ok (.aload_n 0, 1) := by decide +kernel
theorem dX6_init_14 : decode cX6_init 14 = .ok (.sipush 374, 3) := by decide +kernel
theorem dX6_init_17 : decode cX6_init 17 = .ok (.newarray .int, 2) := by decide +kernel
theorem dX6_init_19 : decode cX6_init 19 = .ok (.putfield 13, 3) := by decide +kernel
theorem dX6_init_22 : decode cX6_init 22 = .ok (.aload_n 0, 1) := by decide +kernel
theorem dX6_init_23 : decode cX6_init 23 = .ok (.sipush 374, 3) := by decide +kernel
theorem dX6_init_26 : decode cX6_init 26 = .ok (.newarray .int, 2) := by decide +kernel
theorem dX6_init_28 : decode cX6_init 28 = .ok (.putfield 16, 3) := by decide +kernel
theorem dX6_init_31 : decode cX6_init 31 = .ok (.aload_n 0, 1) := by decide +kernel
theorem dX6_init_32 : decode cX6_init 32 = .ok (.bipush 12, 2) := by decide +kernel
theorem dX6_init_34 : decode cX6_init 34 = .ok (.newarray .int, 2) := by decide +kernel
theorem dX6_init_36 : decode cX6_init 36 = .ok (.putfield 19, 3) := by decide +kernel
theorem dX6_init_39 : decode cX6_init 39 = .ok (.aload_n 0, 1) := by decide +kernel
theorem dX6_init_40 : decode cX6_init 40 = .ok (.getfield 7, 3) := by decide +kernel
theorem dX6_init_43 : decode cX6_init 43 = .ok (.sipush 360, 3) := by decide +kernel
theorem dX6_init_46 : decode cX6_init 46 = .ok (.iconst 2, 1) := by decide +kernel
theorem dX6_init_47 : decode cX6_init 47 = .ok (.iastore, 1) := by decide +kernel
theorem dX6_init_48 : decode cX6_init 48 = .ok (.iconst 0, 1) := by decide +kernel
theorem dX6_init_49 : decode cX6_init 49 = .ok (.istore_n 1, 1) := by decide +kernel
theorem dX6_init_50 : decode cX6_init 50 = .ok (.iload_n 1, 1) := by decide +kernel
theorem dX6_init_51 : decode cX6_init 51 = .ok (.bipush 12, 2) := by decide +kernel
theorem dX6_init_53 : decode cX6_init 53 = .ok (.if_icmp .ge 19, 3) := by decide +kernel
theorem dX6_init_56 : decode cX6_init 56 = .ok (.aload_n 0, 1) := by decide +kernel
theorem dX6_init_57 : decode cX6_init 57 = .ok (.getfield 7, 3) := by decide +kernel
theorem dX6_init_60 : decode cX6_init 60 = .ok (.bipush 24, 2) := by decide +kernel
theorem dX6_init_62 : decode cX6_init 62 = .ok (.iload_n 1, 1) := by decide +kernel
theorem dX6_init_63 : decode cX6_init 63 = .ok (.iadd, 1) := by decide +kernel
theorem dX6_init_64 : decode cX6_init 64 = .ok (.iconst (-1), 1) := by decide +kernel
theorem dX6_init_65 : decode cX6_init 65 = .ok (.iastore, 1) := by decide +kernel
theorem dX6_init_66 : decode cX6_init 66 = .ok (.iinc 1 1, 3) := by decide +kernel
theorem dX6_init_69 : decode cX6_init 69 = .ok (.goto (-19), 3) := by decide +kernel
theorem dX6_init_72 : decode cX6_init 72 = .ok (.return_, 1) := by decide +kernel
theorem dX6_in_0 : decode cX6_in 0 = .ok (.iload_n 0, 1) := by decide +kernel
theorem dX6_in_1 : decode cX6_in 1 = .ok (.iload_n 1, 1) := by decide +kernel
theorem dX6_in_2 : decode cX6_in 2 = .ok (.if_icmp .lt 12, 3) := by decide +kernel
theorem dX6_in_5 : decode cX6_in 5 = .ok (.iload_n 0, 1) := by decide +kernel
theorem dX6_in_6 : decode cX6_in 6 = .ok (.iload_n 2, 1) := by decide +kernel
theorem dX6_in_7 : decode cX6_in 7 = .ok (.if_icmp .gt 7, 3) := by decide +kernel
theorem dX6_in_10 : decode cX6_in 10 = .ok (.iconst 1, 1) := by decide +kernel
theorem dX6_in_11 : decode cX6_in 11 = .ok (.goto 4, 3) := by decide +kernel
theorem dX6_in_14 : decode cX6_in 14 = .ok (.iconst 0, 1) := by decide +kernel
theorem dX6_in_15 : decode cX6_in 15 = .ok (.ireturn, 1) := by decide +kernel
set_option maxRecDepth 20000 in
theorem ggX6_isNode_X6_in : GoodIn wsX6_isNode wsX6_in := goodIn_r _ [5] (by decide +kernel) (by decide +kernel)
set_option maxRecDepth 20000 in
theorem gX6_isNode_X6_in : GoodIn wsX6_isNode (va_wsS RX6 22 yX6_in wsX6_in) := goodIn_app (goodIn_of _ (by decide +kernel)) ggX6_isNode_X6_in
theorem dX6_isNode_0 : decode cX6_isNode 0 = .ok (.iload_n 1, 1) := by decide +kernel
theorem dX6_isNode_1 : decode cX6_isNode 1 = .ok (.iconst 0, 1) := by decide +kernel
theorem dX6_isNode_2 : decode cX6_isNode 2 = .ok (.aload_n 0, 1) := by decide +kernel
theorem dX6_isNode_3 : decode cX6_isNode 3 = .ok (.getfield 7, 3) := by decide +kernel
theorem dX6_isNode_6 : decode cX6_isNode 6 = .ok (.sipush 360, 3) := by decide +kernel
theorem dX6_isNode_9 : decode cX6_isNode 9 = .ok (.iaload, 1) := by decide +kernel
theorem dX6_isNode_10 : decode cX6_isNode 10 = .ok (.iconst 1, 1) := by decide +kernel
theorem dX6_isNode_11 : decode cX6_isNode 11 = .ok (.isub, 1) := by decide +kernel
theorem dX6_isNode_12 : decode cX6_isNode 12 = .ok (.invokestatic 22, 3) := by decide +kernel
theorem dX6_isNode_15 : decode cX6_isNode 15 = .ok (.ireturn, 1) := by decide +kernel
set_option maxRecDepth 20000 in
theorem ggX6_isLink_X6_isNode : GoodIn wsX6_isLink wsX6_isNode := goodIn_r _ [6, 1, 7, 8, 5, 9, 10, 11, 12, 13, 14, 15] (by decide +kernel) (by decide +kernel)
set_option maxRecDepth 20000 in
theorem gX6_isLink_X6_isNode : GoodIn wsX6_isLink (wsV RX6 26 RX6 yX6_isNode wsX6_isNode) := goodIn_app (goodIn_of _ (by decide +kernel)) ggX6_isLink_X6_isNode
theorem dX6_isLink_0 : decode cX6_isLink 0 = .ok (.aload_n 0, 1) := by decide +kernel
theorem dX6_isLink_1 : decode cX6_isLink 1 = .ok (.iload_n 1, 1) := by decide +kernel
theorem dX6_isLink_2 : decode cX6_isLink 2 = .ok (.invokevirtual 26, 3) := by decide +kernel
theorem dX6_isLink_5 : decode cX6_isLink 5 = .ok (.ifCond .eq 34, 3) := by decide +kernel
theorem dX6_isLink_8 : decode cX6_isLink 8 = .ok (.aload_n 0, 1) := by decide +kernel
theorem dX6_isLink_9 : decode cX6_isLink 9 = .ok (.iload_n 2, 1) := by decide +kernel
theorem dX6_isLink_10 : decode cX6_isLink 10 = .ok (.invokevirtual 26, 3) := by decide +kernel
theorem dX6_isLink_13 : decode cX6_isLink 13 = .ok (.ifCond .eq 26, 3) := by decide +kernel
theorem dX6_isLink_16 : decode cX6_isLink 16 = .ok (.aload_n 0, 1) := by decide +kernel
theorem dX6_isLink_17 : decode cX6_isLink 17 = .ok (.getfield 7, 3) := by decide +kernel
theorem dX6_isLink_20 : decode cX6_isLink 20 = .ok (.sipush 216, 3) := by decide +kernel
theorem dX6_isLink_23 : decode cX6_isLink 23 = .ok (.bipush 12, 2) := by decide +kernel
theorem dX6_isLink_25 : decode cX6_isLink 25 = .ok (.iload_n 1, 1) := by decide +kernel
theorem dX6_isLink_26 : decode cX6_isLink 26 = .ok (.imul, 1) := by decide +kernel
theorem dX6_isLink_27 : decode cX6_isLink 27 = .ok (.iadd, 1) := by decide +kernel
theorem dX6_isLink_28 : decode cX6_isLink 28 = .ok (.iload_n 2, 1) := by decide +kernel
theorem dX6_isLink_29 : decode cX6_isLink 29 = .ok (.iadd, 1) := by decide +kernel
theorem dX6_isLink_30 : decode cX6_isLink 30 = .ok (.iaload, 1) := by decide +kernel
theorem dX6_isLink_31 : decode cX6_isLink 31 = .ok (.iconst 1, 1) := by decide +kernel
theorem dX6_isLink_32 : decode cX6_isLink 32 = .ok (.if_icmp .ne 7, 3) := by decide +kernel
theorem dX6_isLink_35 : decode cX6_isLink 35 = .ok (.iconst 1, 1) := by decide +kernel
theorem dX6_isLink_36 : decode cX6_isLink 36 = .ok (.goto 4, 3) := by decide +kernel
theorem dX6_isLink_39 : decode cX6_isLink 39 = .ok (.iconst 0, 1) := by decide +kernel
theorem dX6_isLink_40 : decode cX6_isLink 40 = .ok (.ireturn, 1) := by decide +kernel
theorem dX6_k_0 : decode cX6_k 0 = .ok (.iconst 2, 1) := by decide +kernel
theorem dX6_k_1 : decode cX6_k 1 = .ok (.aload_n 0, 1) := by decide +kernel
theorem dX6_k_2 : decode cX6_k 2 = .ok (.getfield 7, 3) := by decide +kernel
theorem dX6_k_5 : decode cX6_k 5 = .ok (.sipush 360, 3) := by decide +kernel
theorem dX6_k_8 : decode cX6_k 8 = .ok (.iaload, 1) := by decide +kernel
theorem dX6_k_9 : decode cX6_k 9 = .ok (.imul, 1) := by decide +kernel
theorem dX6_k_10 : decode cX6_k 10 = .ok (.iconst 1, 1) := by decide +kernel
theorem dX6_k_11 : decode cX6_k 11 = .ok (.iadd, 1) := by decide +kernel
theorem dX6_k_12 : decode cX6_k 12 = .ok (.ireturn, 1) := by decide +kernel
set_option maxRecDepth 20000 in
theorem ggX6_open_X6_in : GoodIn wsX6_open wsX6_in := goodIn_r _ [5] (by decide +kernel) (by decide +kernel)
set_option maxRecDepth 20000 in
theorem gX6_open_X6_in : GoodIn wsX6_open (va_wsS RX6 22 yX6_in wsX6_in) := goodIn_app (goodIn_of _ (by decide +kernel)) ggX6_open_X6_in
theorem dX6_open_0 : decode cX6_open 0 = .ok (.iload_n 1, 1) := by decide +kernel
theorem dX6_open_1 : decode cX6_open 1 = .ok (.iconst 2, 1) := by decide +kernel
theorem dX6_open_2 : decode cX6_open 2 = .ok (.bipush 12, 2) := by decide +kernel
theorem dX6_open_4 : decode cX6_open 4 = .ok (.invokestatic 22, 3) := by decide +kernel
theorem dX6_open_7 : decode cX6_open 7 = .ok (.ifCond .ne 6, 3) := by decide +kernel
theorem dX6_open_10 : decode cX6_open 10 = .ok (.bipush (-102), 2) := by decide +kernel
theorem dX6_open_12 : decode cX6_open 12 = .ok (.ireturn, 1) := by decide +kernel
theorem dX6_open_13 : decode cX6_open 13 = .ok (.aload_n 0, 1) := by decide +kernel
theorem dX6_open_14 : decode cX6_open 14 = .ok (.getfield 7, 3) := by decide +kernel
theorem dX6_open_17 : decode cX6_open 17 = .ok (.sipush 360, 3) := by decide +kernel
theorem dX6_open_20 : decode cX6_open 20 = .ok (.iaload, 1) := by decide +kernel
theorem dX6_open_21 : decode cX6_open 21 = .ok (.istore_n 2, 1) := by decide +kernel
theorem dX6_open_22 : decode cX6_open 22 = .ok (.iconst 0, 1) := by decide +kernel
theorem dX6_open_23 : decode cX6_open 23 = .ok (.istore_n 3, 1) := by decide +kernel
theorem dX6_open_24 : decode cX6_open 24 = .ok (.iload_n 3, 1) := by decide +kernel
theorem dX6_open_25 : decode cX6_open 25 = .ok (.sipush 374, 3) := by decide +kernel
theorem dX6_open_28 : decode cX6_open 28 = .ok (.if_icmp .ge 46, 3) := by decide +kernel
theorem dX6_open_31 : decode cX6_open 31 = .ok (.iload_n 3, 1) := by decide +kernel
theorem dX6_open_32 : decode cX6_open 32 = .ok (.sipush 370, 3) := by decide +kernel
theorem dX6_open_35 : decode cX6_open 35 = .ok (.if_icmp .eq 33, 3) := by decide +kernel
theorem dX6_open_38 : decode cX6_open 38 = .ok (.iload_n 3, 1) := by decide +kernel
theorem dX6_open_39 : decode cX6_open 39 = .ok (.sipush 371, 3) := by decide +kernel
theorem dX6_open_42 : decode cX6_open 42 = .ok (.if_icmp .eq 26, 3) := by decide +kernel
theorem dX6_open_45 : decode cX6_open 45 = .ok (.aload_n 0, 1) := by decide +kernel
theorem dX6_open_46 : decode cX6_open 46 = .ok (.getfield 7, 3) := by decide +kernel
theorem dX6_open_49 : decode cX6_open 49 = .ok (.iload_n 3, 1) := by decide +kernel
theorem dX6_open_50 : decode cX6_open 50 = .ok (.iload_n 3, 1) := by decide +kernel
theorem dX6_open_51 : decode cX6_open 51 = .ok (.bipush 24, 2) := by decide +kernel
theorem dX6_open_53 : decode cX6_open 53 = .ok (.if_icmp .lt 13, 3) := by decide +kernel
theorem dX6_open_56 : decode cX6_open 56 = .ok (.iload_n 3, 1) := by decide +kernel
theorem dX6_open_57 : decode cX6_open 57 = .ok (.bipush 36, 2) := by decide +kernel
theorem dX6_open_59 : decode cX6_open 59 = .ok (.if_icmp .ge 7, 3) := by decide +kernel
theorem dX6_open_62 : decode cX6_open 62 = .ok (.iconst (-1), 1) := by decide +kernel
theorem dX6_open_63 : decode cX6_open 63 = .ok (.goto 4, 3) := by decide +kernel
theorem dX6_open_66 : decode cX6_open 66 = .ok (.iconst 0, 1) := by decide +kernel
theorem dX6_open_67 : decode cX6_open 67 = .ok (.iastore, 1) := by decide +kernel
theorem dX6_open_68 : decode cX6_open 68 = .ok (.iinc 3 1, 3) := by decide +kernel
theorem dX6_open_71 : decode cX6_open 71 = .ok (.goto (-47), 3) := by decide +kernel
theorem dX6_open_74 : decode cX6_open 74 = .ok (.aload_n 0, 1) := by decide +kernel
theorem dX6_open_75 : decode cX6_open 75 = .ok (.getfield 7, 3) := by decide +kernel
theorem dX6_open_78 : decode cX6_open 78 = .ok (.sipush 360, 3) := by decide +kernel
theorem dX6_open_81 : decode cX6_open 81 = .ok (.iload_n 1, 1) := by decide +kernel
theorem dX6_open_82 : decode cX6_open 82 = .ok (.iastore, 1) := by decide +kernel
theorem dX6_open_83 : decode cX6_open 83 = .ok (.iload_n 2, 1) := by decide +kernel
theorem dX6_open_84 : decode cX6_open 84 = .ok (.ireturn, 1) := by decide +kernel
set_option maxRecDepth 20000 in
theorem ggX6_link_X6_isNode : GoodIn wsX6_link wsX6_isNode := goodIn_r _ [6, 1, 7, 8, 5, 9, 10, 11, 12, 13, 14, 15] (by decide +kernel) (by decide +kernel)
set_option maxRecDepth 20000 in
theorem gX6_link_X6_isNode : GoodIn wsX6_link (wsV RX6 26 RX6 yX6_isNode wsX6_isNode) := goodIn_app (goodIn_of _ (by decide +kernel)) ggX6_link_X6_isNode
theorem dX6_link_0 : decode cX6_link 0 = .ok (.aload_n 0, 1) := by decide +kernel
theorem dX6_link_1 : decode cX6_link 1 = .ok (.iload_n 1, 1) := by decide +kernel
theorem dX6_link_2 : decode cX6_link 2 = .ok (.invokevirtual 26, 3) := by decide +kernel
theorem dX6_link_5 : decode cX6_link 5 = .ok (.ifCond .eq 11, 3) := by decide +kernel
theorem dX6_link_8 : decode cX6_link 8 = .ok (.aload_n 0, 1) := by decide +kernel
theorem dX6_link_9 : decode cX6_link 9 = .ok (.iload_n 2, 1) := by decide +kernel
theorem dX6_link_10 : decode cX6_link 10 = .ok (.invokevirtual 26, 3) := by decide +kernel
theorem dX6_link_13 : decode cX6_link 13 = .ok (.ifCond .ne 6, 3) := by decide +kernel
theorem dX6_link_16 : decode cX6_link 16 = .ok (.bipush (-101), 2) := by decide +kernel
theorem dX6_link_18 : decode cX6_link 18 = .ok (.ireturn, 1) := by decide +kernel
theorem dX6_link_19 : decode cX6_link 19 = .ok (.iload_n 1, 1) := by decide +kernel
theorem dX6_link_20 : decode cX6_link 20 = .ok (.iload_n 2, 1) := by decide +kernel
theorem dX6_link_21 : decode cX6_link 21 = .ok (.if_icmp .ne 6, 3) := by decide +kernel
theorem dX6_link_24 : decode cX6_link 24 = .ok (.bipush (-102), 2) := by decide +kernel
theorem dX6_link_26 : decode cX6_link 26 = .ok (.ireturn, 1) := by decide +kernel
theorem dX6_link_27 : decode cX6_link 27 = .ok (.aload_n 0, 1) := by decide +kernel
theorem dX6_link_28 : decode cX6_link 28 = .ok (.getfield 7, 3) := by decide +kernel
theorem dX6_link_31 : decode cX6_link 31 = .ok (.sipush 361, 3) := by decide +kernel
theorem dX6_link_34 : decode cX6_link 34 = .ok (.iaload, 1) := by decide +kernel
theorem dX6_link_35 : decode cX6_link 35 = .ok (.iconst 1, 1) := by decide +kernel
theorem dX6_link_36 : decode cX6_link 36 = .ok (.if_icmp .ne 6, 3) := by decide +kernel
theorem dX6_link_39 : decode cX6_link 39 = .ok (.bipush (-103), 2) := by decide +kernel
theorem dX6_link_41 : decode cX6_link 41 = .ok (.ireturn, 1) := by decide +kernel
theorem dX6_link_42 : decode cX6_link 42 = .ok (.aload_n 0, 1) := by decide +kernel
theorem dX6_link_43 : decode cX6_link 43 = .ok (.getfield 7, 3) := by decide +kernel
theorem dX6_link_46 : decode cX6_link 46 = .ok (.sipush 216, 3) := by decide +kernel
theorem dX6_link_49 : decode cX6_link 49 = .ok (.bipush 12, 2) := by decide +kernel
theorem dX6_link_51 : decode cX6_link 51 = .ok (.iload_n 1, 1) := by decide +kernel
theorem dX6_link_52 : decode cX6_link 52 = .ok (.imul, 1) := by decide +kernel
theorem dX6_link_53 : decode cX6_link 53 = .ok (.iadd, 1) := by decide +kernel
theorem dX6_link_54 : decode cX6_link 54 = .ok (.iload_n 2, 1) := by decide +kernel
theorem dX6_link_55 : decode cX6_link 55 = .ok (.iadd, 1) := by decide +kernel
theorem dX6_link_56 : decode cX6_link 56 = .ok (.iaload, 1) := by decide +kernel
theorem dX6_link_57 : decode cX6_link 57 = .ok (.istore 4, 2) := by decide +kernel
theorem dX6_link_59 : decode cX6_link 59 = .ok (.aload_n 0, 1) := by decide +kernel
theorem dX6_link_60 : decode cX6_link 60 = .ok (.getfield 7, 3) := by decide +kernel
theorem dX6_link_63 : decode cX6_link 63 = .ok (.sipush 216, 3) := by decide +kernel
theorem dX6_link_66 : decode cX6_link 66 = .ok (.bipush 12, 2) := by decide +kernel
theorem dX6_link_68 : decode cX6_link 68 = .ok (.iload_n 1, 1) := by decide +kernel
theorem dX6_link_69 : decode cX6_link 69 = .ok (.imul, 1) := by decide +kernel
theorem dX6_link_70 : decode cX6_link 70 = .ok (.iadd, 1) := by decide +kernel
theorem dX6_link_71 : decode cX6_link 71 = .ok (.iload_n 2, 1) := by decide +kernel
theorem dX6_link_72 : decode cX6_link 72 = .ok (.iadd, 1) := by decide +kernel
theorem dX6_link_73 : decode cX6_link 73 = .ok (.iload_n 3, 1) := by decide +kernel
theorem dX6_link_74 : decode cX6_link 74 = .ok (.ifCond .eq 7, 3) := by decide +kernel
theorem dX6_link_77 : decode cX6_link 77 = .ok (.iconst 1, 1) := by decide +kernel
theorem dX6_link_78 : decode cX6_link 78 = .ok (.goto 4, 3) := by decide +kernel
theorem dX6_link_81 : decode cX6_link 81 = .ok (.iconst 0, 1) := by decide +kernel
theorem dX6_link_82 : decode cX6_link 82 = .ok (.iastore, 1) := by decide +kernel
theorem dX6_link_83 : decode cX6_link 83 = .ok (.aload_n 0, 1) := by decide +kernel
theorem dX6_link_84 : decode cX6_link 84 = .ok (.getfield 7, 3) := by decide +kernel
theorem dX6_link_87 : decode cX6_link 87 = .ok (.sipush 216, 3) := by decide +kernel
theorem dX6_link_90 : decode cX6_link 90 = .ok (.bipush 12, 2) := by decide +kernel
theorem dX6_link_92 : decode cX6_link 92 = .ok (.iload_n 2, 1) := by decide +kernel
theorem dX6_link_93 : decode cX6_link 93 = .ok (.imul, 1) := by decide +kernel
theorem dX6_link_94 : decode cX6_link 94 = .ok (.iadd, 1) := by decide +kernel
theorem dX6_link_95 : decode cX6_link 95 = .ok (.iload_n 1, 1) := by decide +kernel
theorem dX6_link_96 : decode cX6_link 96 = .ok (.iadd, 1) := by decide +kernel
theorem dX6_link_97 : decode cX6_link 97 = .ok (.iload_n 3, 1) := by decide +kernel
theorem dX6_link_98 : decode cX6_link 98 = .ok (.ifCond .eq 7, 3) := by decide +kernel
theorem dX6_link_101 : decode cX6_link 101 = .ok (.iconst 1, 1) := by decide +kernel
theorem dX6_link_102 : decode cX6_link 102 = .ok (.goto 4, 3) := by decide +kernel
theorem dX6_link_105 : decode cX6_link 105 = .ok (.iconst 0, 1) := by decide +kernel
theorem dX6_link_106 : decode cX6_link 106 = .ok (.iastore, 1) := by decide +kernel
theorem dX6_link_107 : decode cX6_link 107 = .ok (.iload 4, 2) := by decide +kernel
theorem dX6_link_109 : decode cX6_link 109 = .ok (.ireturn, 1) := by decide +kernel
theorem dX6_links_0 : decode cX6_links 0 = .ok (.iconst 0, 1) := by decide +kernel
theorem dX6_links_1 : decode cX6_links 1 = .ok (.istore_n 1, 1) := by decide +kernel
theorem dX6_links_2 : decode cX6_links 2 = .ok (.iconst 0, 1) := by decide +kernel
theorem dX6_links_3 : decode cX6_links 3 = .ok (.istore_n 2, 1) := by decide +kernel
theorem dX6_links_4 : decode cX6_links 4 = .ok (.iload_n 2, 1) := by decide +kernel
theorem dX6_links_5 : decode cX6_links 5 = .ok (.sipush 144, 3) := by decide +kernel
theorem dX6_links_8 : decode cX6_links 8 = .ok (.if_icmp .ge 22, 3) := by decide +kernel
theorem dX6_links_11 : decode cX6_links 11 = .ok (.iload_n 1, 1) := by decide +kernel
theorem dX6_links_12 : decode cX6_links 12 = .ok (.aload_n 0, 1) := by decide +kernel
theorem dX6_links_13 : decode cX6_links 13 = .ok (.getfield 7, 3) := by decide +kernel
theorem dX6_links_16 : decode cX6_links 16 = .ok (.sipush 216, 3) := by decide +kernel
theorem dX6_links_19 : decode cX6_links 19 = .ok (.iload_n 2, 1) := by decide +kernel
theorem dX6_links_20 : decode cX6_links 20 = .ok (.iadd, 1) := by decide +kernel
theorem dX6_links_21 : decode cX6_links 21 = .ok (.iaload, 1) := by decide +kernel
theorem dX6_links_22 : decode cX6_links 22 = .ok (.iadd, 1) := by decide +kernel
theorem dX6_links_23 : decode cX6_links 23 = .ok (.istore_n 1, 1) := by decide +kernel
theorem dX6_links_24 : decode cX6_links 24 = .ok (.iinc 2 1, 3) := by decide +kernel
theorem dX6_links_27 : decode cX6_links 27 = .ok (.goto (-23), 3) := by decide +kernel
theorem dX6_links_30 : decode cX6_links 30 = .ok (.iload_n 1, 1) := by decide +kernel
theorem dX6_links_31 : decode cX6_links 31 = .ok (.iconst 2, 1) := by decide +kernel
theorem dX6_links_32 : decode cX6_links 32 = .ok (.idiv, 1) := by decide +kernel
theorem dX6_links_33 : decode cX6_links 33 = .ok (.ireturn, 1) := by decide +kernel
set_option maxRecDepth 20000 in
theorem ggX6_measure_X6_isLink : GoodIn wsX6_measure wsX6_isLink := goodIn_r _ [7, 2, 8, 9, 10, 6, 11, 12, 13, 14, 15, 16, 17, 18, 19, 20] (by decide +kernel) (by decide +kernel)
set_option maxRecDepth 20000 in
theorem gX6_measure_X6_isLink : GoodIn wsX6_measure (wsV RX6 30 RX6 yX6_isLink wsX6_isLink) := goodIn_app (goodIn_of _ (by decide +kernel)) ggX6_measure_X6_isLink
theorem dX6_measure_0 : decode cX6_measure 0 = .ok (.iconst 0, 1) := by decide +kernel
theorem dX6_measure_1 : decode cX6_measure 1 = .ok (.istore_n 1, 1) := by decide +kernel
theorem dX6_measure_2 : decode cX6_measure 2 = .ok (.iload_n 1, 1) := by decide +kernel
theorem dX6_measure_3 : decode cX6_measure 3 = .ok (.bipush 12, 2) := by decide +kernel
theorem dX6_measure_5 : decode cX6_measure 5 = .ok (.if_icmp .ge 24, 3) := by decide +kernel
theorem dX6_measure_8 : decode cX6_measure 8 = .ok (.aload_n 0, 1) := by decide +kernel
theorem dX6_measure_9 : decode cX6_measure 9 = .ok (.getfield 19, 3) := by decide +kernel
theorem dX6_measure_12 : decode cX6_measure 12 = .ok (.iload_n 1, 1) := by decide +kernel
theorem dX6_measure_13 : decode cX6_measure 13 = .ok (.iload_n 1, 1) := by decide +kernel
theorem dX6_measure_14 : decode cX6_measure 14 = .ok (.ifCond .ne 7, 3) := by decide +kernel
theorem dX6_measure_17 : decode cX6_measure 17 = .ok (.iconst 0, 1) := by decide +kernel
theorem dX6_measure_18 : decode cX6_measure 18 = .ok (.goto 4, 3) := by decide +kernel
theorem dX6_measure_21 : decode cX6_measure 21 = .ok (.iconst (-1), 1) := by decide +kernel
theorem dX6_measure_22 : decode cX6_measure 22 = .ok (.iastore, 1) := by decide +kernel
theorem dX6_measure_23 : decode cX6_measure 23 = .ok (.iinc 1 1, 3) := by decide +kernel
theorem dX6_measure_26 : decode cX6_measure 26 = .ok (.goto (-24), 3) := by decide +kernel
theorem dX6_measure_29 : decode cX6_measure 29 = .ok (.iconst 0, 1) := by decide +kernel
theorem dX6_measure_30 : decode cX6_measure 30 = .ok (.istore_n 1, 1) := by decide +kernel
theorem dX6_measure_31 : decode cX6_measure 31 = .ok (.iload_n 1, 1) := by decide +kernel
theorem dX6_measure_32 : decode cX6_measure 32 = .ok (.aload_n 0, 1) := by decide +kernel
theorem dX6_measure_33 : decode cX6_measure 33 = .ok (.getfield 7, 3) := by decide +kernel
theorem dX6_measure_36 : decode cX6_measure 36 = .ok (.sipush 360, 3) := by decide +kernel
theorem dX6_measure_39 : decode cX6_measure 39 = .ok (.iaload, 1) := by decide +kernel
theorem dX6_measure_40 : decode cX6_measure 40 = .ok (.if_icmp .ge 87, 3) := by decide +kernel
theorem dX6_measure_43 : decode cX6_measure 43 = .ok (.iconst 0, 1) := by decide +kernel
theorem dX6_measure_44 : decode cX6_measure 44 = .ok (.istore_n 2, 1) := by decide +kernel
theorem dX6_measure_45 : decode cX6_measure 45 = .ok (.iload_n 2, 1) := by decide +kernel
theorem dX6_measure_46 : decode cX6_measure 46 = .ok (.aload_n 0, 1) := by decide +kernel
theorem dX6_measure_47 : decode cX6_measure 47 = .ok (.getfield 7, 3) := by decide +kernel
theorem dX6_measure_50 : decode cX6_measure 50 = .ok (.sipush 360, 3) := by decide +kernel
theorem dX6_measure_53 : decode cX6_measure 53 = .ok (.iaload, 1) := by decide +kernel
theorem dX6_measure_54 : decode cX6_measure 54 = .ok (.if_icmp .ge 67, 3) := by decide +kernel
theorem dX6_measure_57 : decode cX6_measure 57 = .ok (.iconst 0, 1) := by decide +kernel
theorem dX6_measure_58 : decode cX6_measure 58 = .ok (.istore_n 3, 1) := by decide +kernel
theorem dX6_measure_59 : decode cX6_measure 59 = .ok (.iload_n 3, 1) := by decide +kernel
theorem dX6_measure_60 : decode cX6_measure 60 = .ok (.aload_n 0, 1) := by decide +kernel
theorem dX6_measure_61 : decode cX6_measure 61 = .ok (.getfield 7, 3) := by decide +kernel
theorem dX6_measure_64 : decode cX6_measure 64 = .ok (.sipush 360, 3) := by decide +kernel
theorem dX6_measure_67 : decode cX6_measure 67 = .ok (.iaload, 1) := by decide +kernel
theorem dX6_measure_68 : decode cX6_measure 68 = .ok (.if_icmp .ge 47, 3) := by decide +kernel
theorem dX6_measure_71 : decode cX6_measure 71 = .ok (.aload_n 0, 1) := by decide +kernel
theorem dX6_measure_72 : decode cX6_measure 72 = .ok (.getfield 19, 3) := by decide +kernel
theorem dX6_measure_75 : decode cX6_measure 75 = .ok (.iload_n 2, 1) := by decide +kernel
theorem dX6_measure_76 : decode cX6_measure 76 = .ok (.iaload, 1) := by decide +kernel
theorem dX6_measure_77 : decode cX6_measure 77 = .ok (.iload_n 1, 1) := by decide +kernel
theorem dX6_measure_78 : decode cX6_measure 78 = .ok (.if_icmp .ne 31, 3) := by decide +kernel
theorem dX6_measure_81 : decode cX6_measure 81 = .ok (.aload_n 0, 1) := by decide +kernel
theorem dX6_measure_82 : decode cX6_measure 82 = .ok (.iload_n 2, 1) := by decide +kernel
theorem dX6_measure_83 : decode cX6_measure 83 = .ok (.iload_n 3, 1) := by decide +kernel
theorem dX6_measure_84 : decode cX6_measure 84 = .ok (.invokevirtual 30, 3) := by decide +kernel
theorem dX6_measure_87 : decode cX6_measure 87 = .ok (.ifCond .eq 22, 3) := by decide +kernel
theorem dX6_measure_90 : decode cX6_measure 90 = .ok (.aload_n 0, 1) := by decide +kernel
theorem dX6_measure_91 : decode cX6_measure 91 = .ok (.getfield 19, 3) := by decide +kernel
theorem dX6_measure_94 : decode cX6_measure 94 = .ok (.iload_n 3, 1) := by decide +kernel
theorem dX6_measure_95 : decode cX6_measure 95 = .ok (.iaload, 1) := by decide +kernel
theorem dX6_measure_96 : decode cX6_measure 96 = .ok (.iconst (-1), 1) := by decide +kernel
theorem dX6_measure_97 : decode cX6_measure 97 = .ok (.if_icmp .ne 12, 3) := by decide +kernel
theorem dX6_measure_100 : decode cX6_measure 100 = .ok (.aload_n 0, 1) := by decide +kernel
theorem dX6_measure_101 : decode cX6_measure 101 = .ok (.getfield 19, 3) := by decide +kernel
theorem dX6_measure_104 : decode cX6_measure 104 = .ok (.iload_n 3, 1) := by decide +kernel
theorem dX6_measure_105 : decode cX6_measure 105 = .ok (.iload_n 1, 1) := by decide +kernel
theorem dX6_measure_106 : decode cX6_measure 106 = .ok (.iconst 1, 1) := by decide +kernel
theorem dX6_measure_107 : decode cX6_measure 107 = .ok (.iadd, 1) := by decide +kernel
theorem dX6_measure_108 : decode cX6_measure 108 = .ok (.iastore, 1) := by decide +kernel
theorem dX6_measure_109 : decode cX6_measure 109 = .ok (.iinc 3 1, 3) := by decide +kernel
theorem dX6_measure_112 : decode cX6_measure 112 = .ok (.goto (-53), 3) := by decide +kernel
theorem dX6_measure_115 : decode cX6_measure 115 = .ok (.iinc 2 1, 3) := by decide +kernel
theorem dX6_measure_118 : decode cX6_measure 118 = .ok (.goto (-73), 3) := by decide +kernel
theorem dX6_measure_121 : decode cX6_measure 121 = .ok (.iinc 1 1, 3) := by decide +kernel
theorem dX6_measure_124 : decode cX6_measure 124 = .ok (.goto (-93), 3) := by decide +kernel
theorem dX6_measure_127 : decode cX6_measure 127 = .ok (.return_, 1) := by decide +kernel
set_option maxRecDepth 20000 in
theorem ggX6_build_X6_measure : GoodIn wsX6_build wsX6_measure := goodIn_r _ [7, 2, 1, 8, 9, 10, 6, 11, 12, 13, 14, 15, 16, 17, 18, 103, 104, 105, 106, 107, 108] (by decide +kernel) (by decide +kernel)
set_option maxRecDepth 20000 in
theorem gX6_build_X6_measure : GoodIn wsX6_build (wsV RX6 34 RX6 yX6_measure wsX6_measure) := goodIn_app (goodIn_of _ (by decide +kernel)) ggX6_build_X6_measure
set_option maxRecDepth 20000 in
theorem ggX6_build_X6_beginRound : GoodIn wsX6_build wsX6_beginRound := goodIn_r _ [22, 1, 23, 24, 25, 6, 26, 27, 28, 29, 30, 31, 32, 33, 34, 16, 17, 18, 35, 36, 37, 38, 8, 9, 10, 11, 12, 13, 14, 15, 39, 40, 41, 42, 43, 44, 45, 46, 47, 48, 49, 50, 51, 52, 53, 54, 55, 56, 57, 58, 59, 60, 61, 62, 63, 64, 65, 66, 67, 68, 69, 70, 71, 72, 73, 74, 75, 76, 77, 78, 79, 80, 81, 82, 83, 84, 85, 86, 87, 88, 89, 90, 91, 92, 93, 94, 95, 96, 97, 98, 103, 104, 105, 106, 107, 108] (by decide +kernel) (by decide +kernel)
set_option maxRecDepth 20000 in
theorem gX6_build_X6_beginRound : GoodIn wsX6_build (wsV RX6 37 RX6 yX6_beginRound wsX6_beginRound) := goodIn_app (goodIn_of _ (by decide +kernel)) ggX6_build_X6_beginRound
set_option maxRecDepth 20000 in
theorem ggX6_build_X6_links : GoodIn wsX6_build wsX6_links := goodIn_r _ [102, 1, 103, 104, 105, 106, 107, 108] (by decide +kernel) (by decide +kernel)
set_option maxRecDepth 20000 in
theorem gX6_build_X6_links : GoodIn wsX6_build (wsV RX6 40 RX6 yX6_links wsX6_links) := goodIn_app (goodIn_of _ (by decide +kernel)) ggX6_build_X6_links
theorem dX6_build_0 : decode cX6_build 0 = .ok (.aload_n 0, 1) := by decide +kernel
theorem dX6_build_1 : decode cX6_build 1 = .ok (.invokevirtual 34, 3) := by decide +kernel
theorem dX6_build_4 : decode cX6_build 4 = .ok (.aload_n 0, 1) := by decide +kernel
theorem dX6_build_5 : decode cX6_build 5 = .ok (.getfield 7, 3) := by decide +kernel
theorem dX6_build_8 : decode cX6_build 8 = .ok (.sipush 361, 3) := by decide +kernel
theorem dX6_build_11 : decode cX6_build 11 = .ok (.iaload, 1) := by decide +kernel
theorem dX6_build_12 : decode cX6_build 12 = .ok (.ifCond .ne 7, 3) := by decide +kernel
theorem dX6_build_15 : decode cX6_build 15 = .ok (.iconst 1, 1) := by decide +kernel
theorem dX6_build_16 : decode cX6_build 16 = .ok (.goto 4, 3) := by decide +kernel
theorem dX6_build_19 : decode cX6_build 19 = .ok (.iconst 0, 1) := by decide +kernel
theorem dX6_build_20 : decode cX6_build 20 = .ok (.istore_n 1, 1) := by decide +kernel
theorem dX6_build_21 : decode cX6_build 21 = .ok (.iconst 0, 1) := by decide +kernel
theorem dX6_build_22 : decode cX6_build 22 = .ok (.istore_n 2, 1) := by decide +kernel
theorem dX6_build_23 : decode cX6_build 23 = .ok (.iload_n 2, 1) := by decide +kernel
theorem dX6_build_24 : decode cX6_build 24 = .ok (.aload_n 0, 1) := by decide +kernel
theorem dX6_build_25 : decode cX6_build 25 = .ok (.getfield 7, 3) := by decide +kernel
theorem dX6_build_28 : decode cX6_build 28 = .ok (.sipush 360, 3) := by decide +kernel
theorem dX6_build_31 : decode cX6_build 31 = .ok (.iaload, 1) := by decide +kernel
theorem dX6_build_32 : decode cX6_build 32 = .ok (.if_icmp .ge 29, 3) := by decide +kernel
theorem dX6_build_35 : decode cX6_build 35 = .ok (.iload_n 1, 1) := by decide +kernel
theorem dX6_build_36 : decode cX6_build 36 = .ok (.ifCond .eq 17, 3) := by decide +kernel
theorem dX6_build_39 : decode cX6_build 39 = .ok (.aload_n 0, 1) := by decide +kernel
theorem dX6_build_40 : decode cX6_build 40 = .ok (.getfield 19, 3) := by decide +kernel
theorem dX6_build_43 : decode cX6_build 43 = .ok (.iload_n 2, 1) := by decide +kernel
theorem dX6_build_44 : decode cX6_build 44 = .ok (.iaload, 1) := by decide +kernel
theorem dX6_build_45 : decode cX6_build 45 = .ok (.iconst (-1), 1) := by decide +kernel
theorem dX6_build_46 : decode cX6_build 46 = .ok (.if_icmp .eq 7, 3) := by decide +kernel
theorem dX6_build_49 : decode cX6_build 49 = .ok (.iconst 1, 1) := by decide +kernel
theorem dX6_build_50 : decode cX6_build 50 = .ok (.goto 4, 3) := by decide +kernel
theorem dX6_build_53 : decode cX6_build 53 = .ok (.iconst 0, 1) := by decide +kernel
theorem dX6_build_54 : decode cX6_build 54 = .ok (.istore_n 1, 1) := by decide +kernel
theorem dX6_build_55 : decode cX6_build 55 = .ok (.iinc 2 1, 3) := by decide +kernel
theorem dX6_build_58 : decode cX6_build 58 = .ok (.goto (-35), 3) := by decide +kernel
theorem dX6_build_61 : decode cX6_build 61 = .ok (.iload_n 1, 1) := by decide +kernel
theorem dX6_build_62 : decode cX6_build 62 = .ok (.ifCond .ne 6, 3) := by decide +kernel
theorem dX6_build_65 : decode cX6_build 65 = .ok (.bipush (-103), 2) := by decide +kernel
theorem dX6_build_67 : decode cX6_build 67 = .ok (.ireturn, 1) := by decide +kernel
theorem dX6_build_68 : decode cX6_build 68 = .ok (.aload_n 0, 1) := by decide +kernel
theorem dX6_build_69 : decode cX6_build 69 = .ok (.getfield 7, 3) := by decide +kernel
theorem dX6_build_72 : decode cX6_build 72 = .ok (.sipush 361, 3) := by decide +kernel
theorem dX6_build_75 : decode cX6_build 75 = .ok (.iconst 1, 1) := by decide +kernel
theorem dX6_build_76 : decode cX6_build 76 = .ok (.iastore, 1) := by decide +kernel
theorem dX6_build_77 : decode cX6_build 77 = .ok (.iconst 0, 1) := by decide +kernel
theorem dX6_build_78 : decode cX6_build 78 = .ok (.istore_n 2, 1) := by decide +kernel
theorem dX6_build_79 : decode cX6_build 79 = .ok (.iload_n 2, 1) := by decide +kernel
theorem dX6_build_80 : decode cX6_build 80 = .ok (.sipush 144, 3) := by decide +kernel
theorem dX6_build_83 : decode cX6_build 83 = .ok (.if_icmp .ge 19, 3) := by decide +kernel
theorem dX6_build_86 : decode cX6_build 86 = .ok (.aload_n 0, 1) := by decide +kernel
theorem dX6_build_87 : decode cX6_build 87 = .ok (.getfield 7, 3) := by decide +kernel
theorem dX6_build_90 : decode cX6_build 90 = .ok (.bipush 72, 2) := by decide +kernel
theorem dX6_build_92 : decode cX6_build 92 = .ok (.iload_n 2, 1) := by decide +kernel
theorem dX6_build_93 : decode cX6_build 93 = .ok (.iadd, 1) := by decide +kernel
theorem dX6_build_94 : decode cX6_build 94 = .ok (.iconst 0, 1) := by decide +kernel
theorem dX6_build_95 : decode cX6_build 95 = .ok (.iastore, 1) := by decide +kernel
theorem dX6_build_96 : decode cX6_build 96 = .ok (.iinc 2 1, 3) := by decide +kernel
theorem dX6_build_99 : decode cX6_build 99 = .ok (.goto (-20), 3) := by decide +kernel
theorem dX6_build_102 : decode cX6_build 102 = .ok (.aload_n 0, 1) := by decide +kernel
theorem dX6_build_103 : decode cX6_build 103 = .ok (.invokevirtual 37, 3) := by decide +kernel
theorem dX6_build_106 : decode cX6_build 106 = .ok (.aload_n 0, 1) := by decide +kernel
theorem dX6_build_107 : decode cX6_build 107 = .ok (.invokevirtual 40, 3) := by decide +kernel
theorem dX6_build_110 : decode cX6_build 110 = .ok (.ireturn, 1) := by decide +kernel
set_option maxRecDepth 20000 in
theorem ggX6_value_X6_isNode : GoodIn wsX6_value wsX6_isNode := goodIn_r _ [6, 1, 7, 8, 5, 9, 94, 95, 96, 97, 98, 99] (by decide +kernel) (by decide +kernel)
set_option maxRecDepth 20000 in
theorem gX6_value_X6_isNode : GoodIn wsX6_value (wsV RX6 26 RX6 yX6_isNode wsX6_isNode) := goodIn_app (goodIn_of _ (by decide +kernel)) ggX6_value_X6_isNode
set_option maxRecDepth 20000 in
theorem ggX6_value_X6_beginRound : GoodIn wsX6_value wsX6_beginRound := goodIn_r _ [13, 1, 14, 15, 16, 5, 17, 18, 19, 20, 21, 22, 23, 24, 25, 7, 8, 9, 26, 27, 28, 29, 30, 31, 32, 33, 2, 3, 4, 6, 34, 35, 36, 37, 38, 39, 40, 41, 42, 43, 44, 45, 46, 47, 48, 49, 50, 51, 52, 53, 54, 55, 56, 57, 58, 59, 60, 61, 62, 63, 64, 65, 66, 67, 68, 69, 70, 71, 72, 73, 74, 75, 76, 77, 78, 79, 80, 81, 82, 83, 84, 85, 86, 87, 88, 89, 90, 91, 92, 93, 94, 95, 96, 97, 98, 99] (by decide +kernel) (by decide +kernel)
set_option maxRecDepth 20000 in
theorem gX6_value_X6_beginRound : GoodIn wsX6_value (wsV RX6 37 RX6 yX6_beginRound wsX6_beginRound) := goodIn_app (goodIn_of _ (by decide +kernel)) ggX6_value_X6_beginRound
theorem dX6_value_0 : decode cX6_value 0 = .ok (.aload_n 0, 1) := by decide +kernel
theorem dX6_value_1 : decode cX6_value 1 = .ok (.iload_n 1, 1) := by decide +kernel
theorem dX6_value_2 : decode cX6_value 2 = .ok (.invokevirtual 26, 3) := by decide +kernel
theorem dX6_value_5 : decode cX6_value 5 = .ok (.ifCond .ne 6, 3) := by decide +kernel
theorem dX6_value_8 : decode cX6_value 8 = .ok (.bipush (-101), 2) := by decide +kernel
theorem dX6_value_10 : decode cX6_value 10 = .ok (.ireturn, 1) := by decide +kernel
theorem dX6_value_11 : decode cX6_value 11 = .ok (.aload_n 0, 1) := by decide +kernel
theorem dX6_value_12 : decode cX6_value 12 = .ok (.getfield 7, 3) := by decide +kernel
theorem dX6_value_15 : decode cX6_value 15 = .ok (.iconst 0, 1) := by decide +kernel
theorem dX6_value_16 : decode cX6_value 16 = .ok (.iload_n 1, 1) := by decide +kernel
theorem dX6_value_17 : decode cX6_value 17 = .ok (.iadd, 1) := by decide +kernel
theorem dX6_value_18 : decode cX6_value 18 = .ok (.iaload, 1) := by decide +kernel
theorem dX6_value_19 : decode cX6_value 19 = .ok (.istore_n 3, 1) := by decide +kernel
theorem dX6_value_20 : decode cX6_value 20 = .ok (.aload_n 0, 1) := by decide +kernel
theorem dX6_value_21 : decode cX6_value 21 = .ok (.getfield 7, 3) := by decide +kernel
theorem dX6_value_24 : decode cX6_value 24 = .ok (.iconst 0, 1) := by decide +kernel
theorem dX6_value_25 : decode cX6_value 25 = .ok (.iload_n 1, 1) := by decide +kernel
theorem dX6_value_26 : decode cX6_value 26 = .ok (.iadd, 1) := by decide +kernel
theorem dX6_value_27 : decode cX6_value 27 = .ok (.iload_n 2, 1) := by decide +kernel
theorem dX6_value_28 : decode cX6_value 28 = .ok (.iastore, 1) := by decide +kernel
theorem dX6_value_29 : decode cX6_value 29 = .ok (.aload_n 0, 1) := by decide +kernel
theorem dX6_value_30 : decode cX6_value 30 = .ok (.invokevirtual 37, 3) := by decide +kernel
theorem dX6_value_33 : decode cX6_value 33 = .ok (.iload_n 3, 1) := by decide +kernel
theorem dX6_value_34 : decode cX6_value 34 = .ok (.ireturn, 1) := by decide +kernel
set_option maxRecDepth 20000 in
theorem ggX6_neighbourOf_X6_isLink : GoodIn wsX6_neighbourOf wsX6_isLink := goodIn_r _ [6, 1, 7, 8, 9, 5, 10, 11, 12, 13, 14, 15, 16, 17, 18, 19] (by decide +kernel) (by decide +kernel)
set_option maxRecDepth 20000 in
theorem gX6_neighbourOf_X6_isLink : GoodIn wsX6_neighbourOf (wsV RX6 30 RX6 yX6_isLink wsX6_isLink) := goodIn_app (goodIn_of _ (by decide +kernel)) ggX6_neighbourOf_X6_isLink
theorem dX6_neighbourOf_0 : decode cX6_neighbourOf 0 = .ok (.iconst 0, 1) := by decide +kernel
theorem dX6_neighbourOf_1 : decode cX6_neighbourOf 1 = .ok (.istore_n 3, 1) := by decide +kernel
theorem dX6_neighbourOf_2 : decode cX6_neighbourOf 2 = .ok (.iconst 0, 1) := by decide +kernel
theorem dX6_neighbourOf_3 : decode cX6_neighbourOf 3 = .ok (.istore 4, 2) := by decide +kernel
theorem dX6_neighbourOf_5 : decode cX6_neighbourOf 5 = .ok (.iload 4, 2) := by decide +kernel
theorem dX6_neighbourOf_7 : decode cX6_neighbourOf 7 = .ok (.aload_n 0, 1) := by decide +kernel
theorem dX6_neighbourOf_8 : decode cX6_neighbourOf 8 = .ok (.getfield 7, 3) := by decide +kernel
theorem dX6_neighbourOf_11 : decode cX6_neighbourOf 11 = .ok (.sipush 360, 3) := by decide +kernel
theorem dX6_neighbourOf_14 : decode cX6_neighbourOf 14 = .ok (.iaload, 1) := by decide +kernel
theorem dX6_neighbourOf_15 : decode cX6_neighbourOf 15 = .ok (.if_icmp .ge 30, 3) := by decide +kernel
theorem dX6_neighbourOf_18 : decode cX6_neighbourOf 18 = .ok (.aload_n 0, 1) := by decide +kernel
theorem dX6_neighbourOf_19 : decode cX6_neighbourOf 19 = .ok (.iload_n 1, 1) := by decide +kernel
theorem dX6_neighbourOf_20 : decode cX6_neighbourOf 20 = .ok (.iload 4, 2) := by decide +kernel
theorem dX6_neighbourOf_22 : decode cX6_neighbourOf 22 = .ok (.invokevirtual 30, 3) := by decide +kernel
theorem dX6_neighbourOf_25 : decode cX6_neighbourOf 25 = .ok (.ifCond .eq 14, 3) := by decide +kernel
theorem dX6_neighbourOf_28 : decode cX6_neighbourOf 28 = .ok (.iload_n 3, 1) := by decide +kernel
theorem dX6_neighbourOf_29 : decode cX6_neighbourOf 29 = .ok (.iload_n 2, 1) := by decide +kernel
theorem dX6_neighbourOf_30 : decode cX6_neighbourOf 30 = .ok (.if_icmp .ne 6, 3) := by decide +kernel
theorem dX6_neighbourOf_33 : decode cX6_neighbourOf 33 = .ok (.iload 4, 2) := by decide +kernel
theorem dX6_neighbourOf_35 : decode cX6_neighbourOf 35 = .ok (.ireturn, 1) := by decide +kernel
theorem dX6_neighbourOf_36 : decode cX6_neighbourOf 36 = .ok (.iinc 3 1, 3) := by decide +kernel
theorem dX6_neighbourOf_39 : decode cX6_neighbourOf 39 = .ok (.iinc 4 1, 3) := by decide +kernel
theorem dX6_neighbourOf_42 : decode cX6_neighbourOf 42 = .ok (.goto (-37), 3) := by decide +kernel
theorem dX6_neighbourOf_45 : decode cX6_neighbourOf 45 = .ok (.iconst (-1), 1) := by decide +kernel
theorem dX6_neighbourOf_46 : decode cX6_neighbourOf 46 = .ok (.ireturn, 1) := by decide +kernel
set_option maxRecDepth 20000 in
theorem ggX6_isSaneParent_X6_isLink : GoodIn wsX6_isSaneParent wsX6_isLink := goodIn_r _ [6, 1, 7, 8, 9, 5, 10, 11, 12, 13, 14, 15, 16, 17, 18, 19] (by decide +kernel) (by decide +kernel)
set_option maxRecDepth 20000 in
theorem gX6_isSaneParent_X6_isLink : GoodIn wsX6_isSaneParent (wsV RX6 30 RX6 yX6_isLink wsX6_isLink) := goodIn_app (goodIn_of _ (by decide +kernel)) ggX6_isSaneParent_X6_isLink
theorem dX6_isSaneParent_0 : decode cX6_isSaneParent 0 = .ok (.aload_n 0, 1) := by decide +kernel
theorem dX6_isSaneParent_1 : decode cX6_isSaneParent 1 = .ok (.getfield 7, 3) := by decide +kernel
theorem dX6_isSaneParent_4 : decode cX6_isSaneParent 4 = .ok (.bipush 24, 2) := by decide +kernel
theorem dX6_isSaneParent_6 : decode cX6_isSaneParent 6 = .ok (.iload_n 1, 1) := by decide +kernel
theorem dX6_isSaneParent_7 : decode cX6_isSaneParent 7 = .ok (.iadd, 1) := by decide +kernel
theorem dX6_isSaneParent_8 : decode cX6_isSaneParent 8 = .ok (.iaload, 1) := by decide +kernel
theorem dX6_isSaneParent_9 : decode cX6_isSaneParent 9 = .ok (.istore_n 2, 1) := by decide +kernel
theorem dX6_isSaneParent_10 : decode cX6_isSaneParent 10 = .ok (.iload_n 2, 1) := by decide +kernel
theorem dX6_isSaneParent_11 : decode cX6_isSaneParent 11 = .ok (.iconst (-1), 1) := by decide +kernel
theorem dX6_isSaneParent_12 : decode cX6_isSaneParent 12 = .ok (.if_icmp .eq 12, 3) := by decide +kernel
theorem dX6_isSaneParent_15 : decode cX6_isSaneParent 15 = .ok (.aload_n 0, 1) := by decide +kernel
theorem dX6_isSaneParent_16 : decode cX6_isSaneParent 16 = .ok (.iload_n 1, 1) := by decide +kernel
theorem dX6_isSaneParent_17 : decode cX6_isSaneParent 17 = .ok (.iload_n 2, 1) := by decide +kernel
theorem dX6_isSaneParent_18 : decode cX6_isSaneParent 18 = .ok (.invokevirtual 30, 3) := by decide +kernel
theorem dX6_isSaneParent_21 : decode cX6_isSaneParent 21 = .ok (.ifCond .eq 7, 3) := by decide +kernel
theorem dX6_isSaneParent_24 : decode cX6_isSaneParent 24 = .ok (.iconst 1, 1) := by decide +kernel
theorem dX6_isSaneParent_25 : decode cX6_isSaneParent 25 = .ok (.goto 4, 3) := by decide +kernel
theorem dX6_isSaneParent_28 : decode cX6_isSaneParent 28 = .ok (.iconst 0, 1) := by decide +kernel
theorem dX6_isSaneParent_29 : decode cX6_isSaneParent 29 = .ok (.ireturn, 1) := by decide +kernel
set_option maxRecDepth 20000 in
theorem ggX6_distOf_X6_in : GoodIn wsX6_distOf wsX6_in := goodIn_r _ [5] (by decide +kernel) (by decide +kernel)
set_option maxRecDepth 20000 in
theorem gX6_distOf_X6_in : GoodIn wsX6_distOf (va_wsS RX6 22 yX6_in wsX6_in) := goodIn_app (goodIn_of _ (by decide +kernel)) ggX6_distOf_X6_in
theorem dX6_distOf_0 : decode cX6_distOf 0 = .ok (.aload_n 0, 1) := by decide +kernel
theorem dX6_distOf_1 : decode cX6_distOf 1 = .ok (.getfield 7, 3) := by decide +kernel
theorem dX6_distOf_4 : decode cX6_distOf 4 = .ok (.bipush 12, 2) := by decide +kernel
theorem dX6_distOf_6 : decode cX6_distOf 6 = .ok (.iload_n 1, 1) := by decide +kernel
theorem dX6_distOf_7 : decode cX6_distOf 7 = .ok (.iadd, 1) := by decide +kernel
theorem dX6_distOf_8 : decode cX6_distOf 8 = .ok (.iaload, 1) := by decide +kernel
theorem dX6_distOf_9 : decode cX6_distOf 9 = .ok (.iconst 0, 1) := by decide +kernel
theorem dX6_distOf_10 : decode cX6_distOf 10 = .ok (.aload_n 0, 1) := by decide +kernel
theorem dX6_distOf_11 : decode cX6_distOf 11 = .ok (.getfield 7, 3) := by decide +kernel
theorem dX6_distOf_14 : decode cX6_distOf 14 = .ok (.sipush 360, 3) := by decide +kernel
theorem dX6_distOf_17 : decode cX6_distOf 17 = .ok (.iaload, 1) := by decide +kernel
theorem dX6_distOf_18 : decode cX6_distOf 18 = .ok (.invokestatic 22, 3) := by decide +kernel
theorem dX6_distOf_21 : decode cX6_distOf 21 = .ok (.ifCond .eq 15, 3) := by decide +kernel
theorem dX6_distOf_24 : decode cX6_distOf 24 = .ok (.aload_n 0, 1) := by decide +kernel
theorem dX6_distOf_25 : decode cX6_distOf 25 = .ok (.getfield 7, 3) := by decide +kernel
theorem dX6_distOf_28 : decode cX6_distOf 28 = .ok (.bipush 12, 2) := by decide +kernel
theorem dX6_distOf_30 : decode cX6_distOf 30 = .ok (.iload_n 1, 1) := by decide +kernel
theorem dX6_distOf_31 : decode cX6_distOf 31 = .ok (.iadd, 1) := by decide +kernel
theorem dX6_distOf_32 : decode cX6_distOf 32 = .ok (.iaload, 1) := by decide +kernel
theorem dX6_distOf_33 : decode cX6_distOf 33 = .ok (.goto 11, 3) := by decide +kernel
theorem dX6_distOf_36 : decode cX6_distOf 36 = .ok (.aload_n 0, 1) := by decide +kernel
theorem dX6_distOf_37 : decode cX6_distOf 37 = .ok (.getfield 7, 3) := by decide +kernel
theorem dX6_distOf_40 : decode cX6_distOf 40 = .ok (.sipush 360, 3) := by decide +kernel
theorem dX6_distOf_43 : decode cX6_distOf 43 = .ok (.iaload, 1) := by decide +kernel
theorem dX6_distOf_44 : decode cX6_distOf 44 = .ok (.ireturn, 1) := by decide +kernel
set_option maxRecDepth 20000 in
theorem ggX6_parentOf_X6_isSaneParent : GoodIn wsX6_parentOf wsX6_isSaneParent := goodIn_r _ [6, 1, 7, 8, 9, 5, 10, 11, 12, 13, 14, 15, 16, 17, 18, 19, 20, 21, 22, 23] (by decide +kernel) (by decide +kernel)
set_option maxRecDepth 20000 in
theorem gX6_parentOf_X6_isSaneParent : GoodIn wsX6_parentOf (wsV RX6 44 RX6 yX6_isSaneParent wsX6_isSaneParent) := goodIn_app (goodIn_of _ (by decide +kernel)) ggX6_parentOf_X6_isSaneParent
theorem dX6_parentOf_0 : decode cX6_parentOf 0 = .ok (.aload_n 0, 1) := by decide +kernel
theorem dX6_parentOf_1 : decode cX6_parentOf 1 = .ok (.iload_n 1, 1) := by decide +kernel
theorem dX6_parentOf_2 : decode cX6_parentOf 2 = .ok (.invokevirtual 44, 3) := by decide +kernel
theorem dX6_parentOf_5 : decode cX6_parentOf 5 = .ok (.ifCond .eq 15, 3) := by decide +kernel
theorem dX6_parentOf_8 : decode cX6_parentOf 8 = .ok (.aload_n 0, 1) := by decide +kernel
theorem dX6_parentOf_9 : decode cX6_parentOf 9 = .ok (.getfield 7, 3) := by decide +kernel
theorem dX6_parentOf_12 : decode cX6_parentOf 12 = .ok (.bipush 24, 2) := by decide +kernel
theorem dX6_parentOf_14 : decode cX6_parentOf 14 = .ok (.iload_n 1, 1) := by decide +kernel
theorem dX6_parentOf_15 : decode cX6_parentOf 15 = .ok (.iadd, 1) := by decide +kernel
theorem dX6_parentOf_16 : decode cX6_parentOf 16 = .ok (.iaload, 1) := by decide +kernel
theorem dX6_parentOf_17 : decode cX6_parentOf 17 = .ok (.goto 4, 3) := by decide +kernel
theorem dX6_parentOf_20 : decode cX6_parentOf 20 = .ok (.iconst (-1), 1) := by decide +kernel
theorem dX6_parentOf_21 : decode cX6_parentOf 21 = .ok (.ireturn, 1) := by decide +kernel
set_option maxRecDepth 20000 in
theorem ggX6_phaseOf_X6_in : GoodIn wsX6_phaseOf wsX6_in := goodIn_r _ [5] (by decide +kernel) (by decide +kernel)
set_option maxRecDepth 20000 in
theorem gX6_phaseOf_X6_in : GoodIn wsX6_phaseOf (va_wsS RX6 22 yX6_in wsX6_in) := goodIn_app (goodIn_of _ (by decide +kernel)) ggX6_phaseOf_X6_in
theorem dX6_phaseOf_0 : decode cX6_phaseOf 0 = .ok (.aload_n 0, 1) := by decide +kernel
theorem dX6_phaseOf_1 : decode cX6_phaseOf 1 = .ok (.getfield 7, 3) := by decide +kernel
theorem dX6_phaseOf_4 : decode cX6_phaseOf 4 = .ok (.bipush 36, 2) := by decide +kernel
theorem dX6_phaseOf_6 : decode cX6_phaseOf 6 = .ok (.iload_n 1, 1) := by decide +kernel
theorem dX6_phaseOf_7 : decode cX6_phaseOf 7 = .ok (.iadd, 1) := by decide +kernel
theorem dX6_phaseOf_8 : decode cX6_phaseOf 8 = .ok (.iaload, 1) := by decide +kernel
theorem dX6_phaseOf_9 : decode cX6_phaseOf 9 = .ok (.iconst 0, 1) := by decide +kernel
theorem dX6_phaseOf_10 : decode cX6_phaseOf 10 = .ok (.iconst 2, 1) := by decide +kernel
theorem dX6_phaseOf_11 : decode cX6_phaseOf 11 = .ok (.invokestatic 22, 3) := by decide +kernel
theorem dX6_phaseOf_14 : decode cX6_phaseOf 14 = .ok (.ifCond .eq 15, 3) := by decide +kernel
theorem dX6_phaseOf_17 : decode cX6_phaseOf 17 = .ok (.aload_n 0, 1) := by decide +kernel
theorem dX6_phaseOf_18 : decode cX6_phaseOf 18 = .ok (.getfield 7, 3) := by decide +kernel
theorem dX6_phaseOf_21 : decode cX6_phaseOf 21 = .ok (.bipush 36, 2) := by decide +kernel
theorem dX6_phaseOf_23 : decode cX6_phaseOf 23 = .ok (.iload_n 1, 1) := by decide +kernel
theorem dX6_phaseOf_24 : decode cX6_phaseOf 24 = .ok (.iadd, 1) := by decide +kernel
theorem dX6_phaseOf_25 : decode cX6_phaseOf 25 = .ok (.iaload, 1) := by decide +kernel
theorem dX6_phaseOf_26 : decode cX6_phaseOf 26 = .ok (.goto 4, 3) := by decide +kernel
theorem dX6_phaseOf_29 : decode cX6_phaseOf 29 = .ok (.iconst 0, 1) := by decide +kernel
theorem dX6_phaseOf_30 : decode cX6_phaseOf 30 = .ok (.ireturn, 1) := by decide +kernel
set_option maxRecDepth 20000 in
theorem ggX6_xOf_X6_k : GoodIn wsX6_xOf wsX6_k := goodIn_r _ [6, 1, 10, 11, 12, 13, 14, 15] (by decide +kernel) (by decide +kernel)
set_option maxRecDepth 20000 in
theorem gX6_xOf_X6_k : GoodIn wsX6_xOf (wsV RX6 47 RX6 yX6_k wsX6_k) := goodIn_app (goodIn_of _ (by decide +kernel)) ggX6_xOf_X6_k
set_option maxRecDepth 20000 in
theorem ggX6_xOf_X6_in : GoodIn wsX6_xOf wsX6_in := goodIn_r _ [9] (by decide +kernel) (by decide +kernel)
set_option maxRecDepth 20000 in
theorem gX6_xOf_X6_in : GoodIn wsX6_xOf (va_wsS RX6 22 yX6_in wsX6_in) := goodIn_app (goodIn_of _ (by decide +kernel)) ggX6_xOf_X6_in
theorem dX6_xOf_0 : decode cX6_xOf 0 = .ok (.aload_n 0, 1) := by decide +kernel
theorem dX6_xOf_1 : decode cX6_xOf 1 = .ok (.getfield 7, 3) := by decide +kernel
theorem dX6_xOf_4 : decode cX6_xOf 4 = .ok (.bipush 72, 2) := by decide +kernel
theorem dX6_xOf_6 : decode cX6_xOf 6 = .ok (.bipush 12, 2) := by decide +kernel
theorem dX6_xOf_8 : decode cX6_xOf 8 = .ok (.iload_n 1, 1) := by decide +kernel
theorem dX6_xOf_9 : decode cX6_xOf 9 = .ok (.imul, 1) := by decide +kernel
theorem dX6_xOf_10 : decode cX6_xOf 10 = .ok (.iadd, 1) := by decide +kernel
theorem dX6_xOf_11 : decode cX6_xOf 11 = .ok (.iload_n 2, 1) := by decide +kernel
theorem dX6_xOf_12 : decode cX6_xOf 12 = .ok (.iadd, 1) := by decide +kernel
theorem dX6_xOf_13 : decode cX6_xOf 13 = .ok (.iaload, 1) := by decide +kernel
theorem dX6_xOf_14 : decode cX6_xOf 14 = .ok (.istore_n 3, 1) := by decide +kernel
theorem dX6_xOf_15 : decode cX6_xOf 15 = .ok (.iload_n 3, 1) := by decide +kernel
theorem dX6_xOf_16 : decode cX6_xOf 16 = .ok (.iconst 0, 1) := by decide +kernel
theorem dX6_xOf_17 : decode cX6_xOf 17 = .ok (.aload_n 0, 1) := by decide +kernel
theorem dX6_xOf_18 : decode cX6_xOf 18 = .ok (.invokevirtual 47, 3) := by decide +kernel
theorem dX6_xOf_21 : decode cX6_xOf 21 = .ok (.iconst 1, 1) := by decide +kernel
theorem dX6_xOf_22 : decode cX6_xOf 22 = .ok (.isub, 1) := by decide +kernel
theorem dX6_xOf_23 : decode cX6_xOf 23 = .ok (.invokestatic 22, 3) := by decide +kernel
theorem dX6_xOf_26 : decode cX6_xOf 26 = .ok (.ifCond .eq 7, 3) := by decide +kernel
theorem dX6_xOf_29 : decode cX6_xOf 29 = .ok (.iload_n 3, 1) := by decide +kernel
theorem dX6_xOf_30 : decode cX6_xOf 30 = .ok (.goto 4, 3) := by decide +kernel
theorem dX6_xOf_33 : decode cX6_xOf 33 = .ok (.iconst 0, 1) := by decide +kernel
theorem dX6_xOf_34 : decode cX6_xOf 34 = .ok (.ireturn, 1) := by decide +kernel
set_option maxRecDepth 20000 in
theorem ggX6_isChild_X6_isLink : GoodIn wsX6_isChild wsX6_isLink := goodIn_r _ [5, 6, 7, 8, 9, 4, 10, 11, 12, 13, 22, 23, 24, 25, 26, 27] (by decide +kernel) (by decide +kernel)
set_option maxRecDepth 20000 in
theorem gX6_isChild_X6_isLink : GoodIn wsX6_isChild (wsV RX6 30 RX6 yX6_isLink wsX6_isLink) := goodIn_app (goodIn_of _ (by decide +kernel)) ggX6_isChild_X6_isLink
set_option maxRecDepth 20000 in
theorem ggX6_isChild_X6_parentOf : GoodIn wsX6_isChild wsX6_parentOf := goodIn_r _ [17, 6, 18, 19, 20, 4, 21, 1, 2, 3, 5, 7, 8, 9, 10, 11, 12, 13, 22, 23, 24, 25, 26, 27] (by decide +kernel) (by decide +kernel)
set_option maxRecDepth 20000 in
theorem gX6_isChild_X6_parentOf : GoodIn wsX6_isChild (wsV RX6 50 RX6 yX6_parentOf wsX6_parentOf) := goodIn_app (goodIn_of _ (by decide +kernel)) ggX6_isChild_X6_parentOf
theorem dX6_isChild_0 : decode cX6_isChild 0 = .ok (.aload_n 0, 1) := by decide +kernel
theorem dX6_isChild_1 : decode cX6_isChild 1 = .ok (.iload_n 1, 1) := by decide +kernel
theorem dX6_isChild_2 : decode cX6_isChild 2 = .ok (.iload_n 2, 1) := by decide +kernel
theorem dX6_isChild_3 : decode cX6_isChild 3 = .ok (.invokevirtual 30, 3) := by decide +kernel
theorem dX6_isChild_6 : decode cX6_isChild 6 = .ok (.ifCond .eq 16, 3) := by decide +kernel
theorem dX6_isChild_9 : decode cX6_isChild 9 = .ok (.aload_n 0, 1) := by decide +kernel
theorem dX6_isChild_10 : decode cX6_isChild 10 = .ok (.iload_n 2, 1) := by decide +kernel
theorem dX6_isChild_11 : decode cX6_isChild 11 = .ok (.invokevirtual 50, 3) := by decide +kernel
theorem dX6_isChild_14 : decode cX6_isChild 14 = .ok (.iload_n 1, 1) := by decide +kernel
theorem dX6_isChild_15 : decode cX6_isChild 15 = .ok (.if_icmp .ne 7, 3) := by decide +kernel
theorem dX6_isChild_18 : decode cX6_isChild 18 = .ok (.iconst 1, 1) := by decide +kernel
theorem dX6_isChild_19 : decode cX6_isChild 19 = .ok (.goto 4, 3) := by decide +kernel
theorem dX6_isChild_22 : decode cX6_isChild 22 = .ok (.iconst 0, 1) := by decide +kernel
theorem dX6_isChild_23 : decode cX6_isChild 23 = .ok (.ireturn, 1) := by decide +kernel
set_option maxRecDepth 20000 in
theorem ggX6_isTie_X6_isChild : GoodIn wsX6_isTie wsX6_isChild := goodIn_r _ [5, 6, 7, 8, 4, 9, 10, 11, 12, 13, 14, 15, 16, 17, 18, 19, 20, 21, 22, 23, 24, 25, 26, 27, 28, 29, 30, 31] (by decide +kernel) (by decide +kernel)
set_option maxRecDepth 20000 in
theorem gX6_isTie_X6_isChild : GoodIn wsX6_isTie (wsV RX6 54 RX6 yX6_isChild wsX6_isChild) := goodIn_app (goodIn_of _ (by decide +kernel)) ggX6_isTie_X6_isChild
set_option maxRecDepth 20000 in
theorem ggX6_isTie_X6_parentOf : GoodIn wsX6_isTie wsX6_parentOf := goodIn_r _ [21, 10, 22, 23, 24, 4, 25, 6, 7, 8, 9, 11, 12, 13, 14, 15, 16, 17, 26, 27, 28, 29, 30, 31] (by decide +kernel) (by decide +kernel)
set_option maxRecDepth 20000 in
theorem gX6_isTie_X6_parentOf : GoodIn wsX6_isTie (wsV RX6 50 RX6 yX6_parentOf wsX6_parentOf) := goodIn_app (goodIn_of _ (by decide +kernel)) ggX6_isTie_X6_parentOf
theorem dX6_isTie_0 : decode cX6_isTie 0 = .ok (.aload_n 0, 1) := by decide +kernel
theorem dX6_isTie_1 : decode cX6_isTie 1 = .ok (.iload_n 1, 1) := by decide +kernel
theorem dX6_isTie_2 : decode cX6_isTie 2 = .ok (.iload_n 2, 1) := by decide +kernel
theorem dX6_isTie_3 : decode cX6_isTie 3 = .ok (.invokevirtual 54, 3) := by decide +kernel
theorem dX6_isTie_6 : decode cX6_isTie 6 = .ok (.ifCond .ne 17, 3) := by decide +kernel
theorem dX6_isTie_9 : decode cX6_isTie 9 = .ok (.iload_n 2, 1) := by decide +kernel
theorem dX6_isTie_10 : decode cX6_isTie 10 = .ok (.iconst (-1), 1) := by decide +kernel
theorem dX6_isTie_11 : decode cX6_isTie 11 = .ok (.if_icmp .eq 16, 3) := by decide +kernel
theorem dX6_isTie_14 : decode cX6_isTie 14 = .ok (.aload_n 0, 1) := by decide +kernel
theorem dX6_isTie_15 : decode cX6_isTie 15 = .ok (.iload_n 1, 1) := by decide +kernel
theorem dX6_isTie_16 : decode cX6_isTie 16 = .ok (.invokevirtual 50, 3) := by decide +kernel
theorem dX6_isTie_19 : decode cX6_isTie 19 = .ok (.iload_n 2, 1) := by decide +kernel
theorem dX6_isTie_20 : decode cX6_isTie 20 = .ok (.if_icmp .ne 7, 3) := by decide +kernel
theorem dX6_isTie_23 : decode cX6_isTie 23 = .ok (.iconst 1, 1) := by decide +kernel
theorem dX6_isTie_24 : decode cX6_isTie 24 = .ok (.goto 4, 3) := by decide +kernel
theorem dX6_isTie_27 : decode cX6_isTie 27 = .ok (.iconst 0, 1) := by decide +kernel
theorem dX6_isTie_28 : decode cX6_isTie 28 = .ok (.ireturn, 1) := by decide +kernel
set_option maxRecDepth 20000 in
theorem ggX6_tieAhead_X6_isTie : GoodIn wsX6_tieAhead wsX6_isTie := goodIn_r _ [6, 7, 8, 9, 5, 10, 11, 12, 13, 14, 1, 15, 16, 17, 18, 19, 20, 21, 22, 23, 24, 25, 26, 27, 28, 29, 30, 31, 32, 33, 34, 35] (by decide +kernel) (by decide +kernel)
set_option maxRecDepth 20000 in
theorem gX6_tieAhead_X6_isTie : GoodIn wsX6_tieAhead (wsV RX6 57 RX6 yX6_isTie wsX6_isTie) := goodIn_app (goodIn_of _ (by decide +kernel)) ggX6_tieAhead_X6_isTie
theorem dX6_tieAhead_0 : decode cX6_tieAhead 0 = .ok (.iconst (-1), 1) := by decide +kernel
theorem dX6_tieAhead_1 : decode cX6_tieAhead 1 = .ok (.istore_n 3, 1) := by decide +kernel
theorem dX6_tieAhead_2 : decode cX6_tieAhead 2 = .ok (.iconst (-1), 1) := by decide +kernel
theorem dX6_tieAhead_3 : decode cX6_tieAhead 3 = .ok (.istore 4, 2) := by decide +kernel
theorem dX6_tieAhead_5 : decode cX6_tieAhead 5 = .ok (.iconst 0, 1) := by decide +kernel
theorem dX6_tieAhead_6 : decode cX6_tieAhead 6 = .ok (.istore 5, 2) := by decide +kernel
theorem dX6_tieAhead_8 : decode cX6_tieAhead 8 = .ok (.iload 5, 2) := by decide +kernel
theorem dX6_tieAhead_10 : decode cX6_tieAhead 10 = .ok (.aload_n 0, 1) := by decide +kernel
theorem dX6_tieAhead_11 : decode cX6_tieAhead 11 = .ok (.getfield 7, 3) := by decide +kernel
theorem dX6_tieAhead_14 : decode cX6_tieAhead 14 = .ok (.sipush 360, 3) := by decide +kernel
theorem dX6_tieAhead_17 : decode cX6_tieAhead 17 = .ok (.iaload, 1) := by decide +kernel
theorem dX6_tieAhead_18 : decode cX6_tieAhead 18 = .ok (.if_icmp .ge 37, 3) := by decide +kernel
theorem dX6_tieAhead_21 : decode cX6_tieAhead 21 = .ok (.aload_n 0, 1) := by decide +kernel
theorem dX6_tieAhead_22 : decode cX6_tieAhead 22 = .ok (.iload_n 1, 1) := by decide +kernel
theorem dX6_tieAhead_23 : decode cX6_tieAhead 23 = .ok (.iload 5, 2) := by decide +kernel
theorem dX6_tieAhead_25 : decode cX6_tieAhead 25 = .ok (.invokevirtual 57, 3) := by decide +kernel
theorem dX6_tieAhead_28 : decode cX6_tieAhead 28 = .ok (.ifCond .eq 21, 3) := by decide +kernel
theorem dX6_tieAhead_31 : decode cX6_tieAhead 31 = .ok (.iload 5, 2) := by decide +kernel
theorem dX6_tieAhead_33 : decode cX6_tieAhead 33 = .ok (.iload_n 2, 1) := by decide +kernel
theorem dX6_tieAhead_34 : decode cX6_tieAhead 34 = .ok (.if_icmp .ge 8, 3) := by decide +kernel
theorem dX6_tieAhead_37 : decode cX6_tieAhead 37 = .ok (.iload 5, 2) := by decide +kernel
theorem dX6_tieAhead_39 : decode cX6_tieAhead 39 = .ok (.goto 5, 3) := by decide +kernel
theorem dX6_tieAhead_42 : decode cX6_tieAhead 42 = .ok (.iload 4, 2) := by decide +kernel
theorem dX6_tieAhead_44 : decode cX6_tieAhead 44 = .ok (.istore 4, 2) := by decide +kernel
theorem dX6_tieAhead_46 : decode cX6_tieAhead 46 = .ok (.iload 5, 2) := by decide +kernel
theorem dX6_tieAhead_48 : decode cX6_tieAhead 48 = .ok (.istore_n 3, 1) := by decide +kernel
theorem dX6_tieAhead_49 : decode cX6_tieAhead 49 = .ok (.iinc 5 1, 3) := by decide +kernel
theorem dX6_tieAhead_52 : decode cX6_tieAhead 52 = .ok (.goto (-44), 3) := by decide +kernel
theorem dX6_tieAhead_55 : decode cX6_tieAhead 55 = .ok (.iload 4, 2) := by decide +kernel
theorem dX6_tieAhead_57 : decode cX6_tieAhead 57 = .ok (.iconst (-1), 1) := by decide +kernel
theorem dX6_tieAhead_58 : decode cX6_tieAhead 58 = .ok (.if_icmp .ne 7, 3) := by decide +kernel
theorem dX6_tieAhead_61 : decode cX6_tieAhead 61 = .ok (.iload_n 3, 1) := by decide +kernel
theorem dX6_tieAhead_62 : decode cX6_tieAhead 62 = .ok (.goto 5, 3) := by decide +kernel
theorem dX6_tieAhead_65 : decode cX6_tieAhead 65 = .ok (.iload 4, 2) := by decide +kernel
theorem dX6_tieAhead_67 : decode cX6_tieAhead 67 = .ok (.ireturn, 1) := by decide +kernel
set_option maxRecDepth 20000 in
theorem ggX6_firstTie_X6_isTie : GoodIn wsX6_firstTie wsX6_isTie := goodIn_r _ [6, 7, 8, 9, 5, 10, 11, 12, 13, 14, 1, 15, 16, 17, 18, 19, 20, 21, 22, 23, 24, 25, 26, 27, 28, 29, 30, 31, 32, 33, 34, 35] (by decide +kernel) (by decide +kernel)
set_option maxRecDepth 20000 in
theorem gX6_firstTie_X6_isTie : GoodIn wsX6_firstTie (wsV RX6 57 RX6 yX6_isTie wsX6_isTie) := goodIn_app (goodIn_of _ (by decide +kernel)) ggX6_firstTie_X6_isTie
theorem dX6_firstTie_0 : decode cX6_firstTie 0 = .ok (.iconst 0, 1) := by decide +kernel
theorem dX6_firstTie_1 : decode cX6_firstTie 1 = .ok (.istore_n 2, 1) := by decide +kernel
theorem dX6_firstTie_2 : decode cX6_firstTie 2 = .ok (.iload_n 2, 1) := by decide +kernel
theorem dX6_firstTie_3 : decode cX6_firstTie 3 = .ok (.aload_n 0, 1) := by decide +kernel
theorem dX6_firstTie_4 : decode cX6_firstTie 4 = .ok (.getfield 7, 3) := by decide +kernel
theorem dX6_firstTie_7 : decode cX6_firstTie 7 = .ok (.sipush 360, 3) := by decide +kernel
theorem dX6_firstTie_10 : decode cX6_firstTie 10 = .ok (.iaload, 1) := by decide +kernel
theorem dX6_firstTie_11 : decode cX6_firstTie 11 = .ok (.if_icmp .ge 18, 3) := by decide +kernel
theorem dX6_firstTie_14 : decode cX6_firstTie 14 = .ok (.aload_n 0, 1) := by decide +kernel
theorem dX6_firstTie_15 : decode cX6_firstTie 15 = .ok (.iload_n 1, 1) := by decide +kernel
theorem dX6_firstTie_16 : decode cX6_firstTie 16 = .ok (.iload_n 2, 1) := by decide +kernel
theorem dX6_firstTie_17 : decode cX6_firstTie 17 = .ok (.invokevirtual 57, 3) := by decide +kernel
theorem dX6_firstTie_20 : decode cX6_firstTie 20 = .ok (.ifCond .ne 9, 3) := by decide +kernel
theorem dX6_firstTie_23 : decode cX6_firstTie 23 = .ok (.iinc 2 1, 3) := by decide +kernel
theorem dX6_firstTie_26 : decode cX6_firstTie 26 = .ok (.goto (-24), 3) := by decide +kernel
theorem dX6_firstTie_29 : decode cX6_firstTie 29 = .ok (.iload_n 2, 1) := by decide +kernel
theorem dX6_firstTie_30 : decode cX6_firstTie 30 = .ok (.ireturn, 1) := by decide +kernel
set_option maxRecDepth 20000 in
theorem ggX6_hasRight_X6_xOf : GoodIn wsX6_hasRight wsX6_xOf := goodIn_r _ [5, 6, 7, 8, 9, 4, 10, 11, 12, 13, 46, 47, 48, 49, 50, 51] (by decide +kernel) (by decide +kernel)
set_option maxRecDepth 20000 in
theorem gX6_hasRight_X6_xOf : GoodIn wsX6_hasRight (wsV RX6 60 RX6 yX6_xOf wsX6_xOf) := goodIn_app (goodIn_of _ (by decide +kernel)) ggX6_hasRight_X6_xOf
set_option maxRecDepth 20000 in
theorem ggX6_hasRight_X6_tieAhead : GoodIn wsX6_hasRight wsX6_tieAhead := goodIn_r _ [17, 6, 18, 19, 20, 4, 21, 22, 23, 24, 25, 26, 27, 28, 29, 30, 31, 32, 33, 11, 12, 13, 34, 35, 36, 37, 38, 39, 40, 41, 46, 47, 48, 49, 50, 51] (by decide +kernel) (by decide +kernel)
set_option maxRecDepth 20000 in
theorem gX6_hasRight_X6_tieAhead : GoodIn wsX6_hasRight (wsV RX6 64 RX6 yX6_tieAhead wsX6_tieAhead) := goodIn_app (goodIn_of _ (by decide +kernel)) ggX6_hasRight_X6_tieAhead
set_option maxRecDepth 20000 in
theorem ggX6_hasRight_X6_firstTie : GoodIn wsX6_hasRight wsX6_firstTie := goodIn_r _ [45, 6, 18, 19, 20, 4, 21, 22, 23, 24, 25, 26, 27, 28, 29, 30, 31, 32, 33, 11, 12, 13, 34, 35, 36, 37, 38, 39, 40, 41, 46, 47, 48, 49, 50, 51] (by decide +kernel) (by decide +kernel)
set_option maxRecDepth 20000 in
theorem gX6_hasRight_X6_firstTie : GoodIn wsX6_hasRight (wsV RX6 67 RX6 yX6_firstTie wsX6_firstTie) := goodIn_app (goodIn_of _ (by decide +kernel)) ggX6_hasRight_X6_firstTie
theorem dX6_hasRight_0 : decode cX6_hasRight 0 = .ok (.aload_n 0, 1) := by decide +kernel
theorem dX6_hasRight_1 : decode cX6_hasRight 1 = .ok (.iload_n 1, 1) := by decide +kernel
theorem dX6_hasRight_2 : decode cX6_hasRight 2 = .ok (.iload_n 2, 1) := by decide +kernel
theorem dX6_hasRight_3 : decode cX6_hasRight 3 = .ok (.invokevirtual 60, 3) := by decide +kernel
theorem dX6_hasRight_6 : decode cX6_hasRight 6 = .ok (.aload_n 0, 1) := by decide +kernel
theorem dX6_hasRight_7 : decode cX6_hasRight 7 = .ok (.aload_n 0, 1) := by decide +kernel
theorem dX6_hasRight_8 : decode cX6_hasRight 8 = .ok (.iload_n 1, 1) := by decide +kernel
theorem dX6_hasRight_9 : decode cX6_hasRight 9 = .ok (.iload_n 2, 1) := by decide +kernel
theorem dX6_hasRight_10 : decode cX6_hasRight 10 = .ok (.invokevirtual 64, 3) := by decide +kernel
theorem dX6_hasRight_13 : decode cX6_hasRight 13 = .ok (.iload_n 1, 1) := by decide +kernel
theorem dX6_hasRight_14 : decode cX6_hasRight 14 = .ok (.invokevirtual 60, 3) := by decide +kernel
theorem dX6_hasRight_17 : decode cX6_hasRight 17 = .ok (.if_icmp .ne 7, 3) := by decide +kernel
theorem dX6_hasRight_20 : decode cX6_hasRight 20 = .ok (.iconst 1, 1) := by decide +kernel
theorem dX6_hasRight_21 : decode cX6_hasRight 21 = .ok (.goto 4, 3) := by decide +kernel
theorem dX6_hasRight_24 : decode cX6_hasRight 24 = .ok (.iconst 0, 1) := by decide +kernel
theorem dX6_hasRight_25 : decode cX6_hasRight 25 = .ok (.istore_n 3, 1) := by decide +kernel
theorem dX6_hasRight_26 : decode cX6_hasRight 26 = .ok (.iload_n 1, 1) := by decide +kernel
theorem dX6_hasRight_27 : decode cX6_hasRight 27 = .ok (.ifCond .ne 16, 3) := by decide +kernel
theorem dX6_hasRight_30 : decode cX6_hasRight 30 = .ok (.iload_n 2, 1) := by decide +kernel
theorem dX6_hasRight_31 : decode cX6_hasRight 31 = .ok (.aload_n 0, 1) := by decide +kernel
theorem dX6_hasRight_32 : decode cX6_hasRight 32 = .ok (.iconst 0, 1) := by decide +kernel
theorem dX6_hasRight_33 : decode cX6_hasRight 33 = .ok (.invokevirtual 67, 3) := by decide +kernel
theorem dX6_hasRight_36 : decode cX6_hasRight 36 = .ok (.if_icmp .ne 7, 3) := by decide +kernel
theorem dX6_hasRight_39 : decode cX6_hasRight 39 = .ok (.iload_n 3, 1) := by decide +kernel
theorem dX6_hasRight_40 : decode cX6_hasRight 40 = .ok (.goto 12, 3) := by decide +kernel
theorem dX6_hasRight_43 : decode cX6_hasRight 43 = .ok (.iload_n 3, 1) := by decide +kernel
theorem dX6_hasRight_44 : decode cX6_hasRight 44 = .ok (.ifCond .ne 7, 3) := by decide +kernel
theorem dX6_hasRight_47 : decode cX6_hasRight 47 = .ok (.iconst 1, 1) := by decide +kernel
theorem dX6_hasRight_48 : decode cX6_hasRight 48 = .ok (.goto 4, 3) := by decide +kernel
theorem dX6_hasRight_51 : decode cX6_hasRight 51 = .ok (.iconst 0, 1) := by decide +kernel
theorem dX6_hasRight_52 : decode cX6_hasRight 52 = .ok (.ireturn, 1) := by decide +kernel
set_option maxRecDepth 20000 in
theorem ggX6_isSane_X6_in : GoodIn wsX6_isSane wsX6_in := goodIn_r _ [5] (by decide +kernel) (by decide +kernel)
set_option maxRecDepth 20000 in
theorem gX6_isSane_X6_in : GoodIn wsX6_isSane (va_wsS RX6 22 yX6_in wsX6_in) := goodIn_app (goodIn_of _ (by decide +kernel)) ggX6_isSane_X6_in
set_option maxRecDepth 20000 in
theorem ggX6_isSane_X6_isSaneParent : GoodIn wsX6_isSane wsX6_isSaneParent := goodIn_r _ [9, 1, 10, 11, 12, 4, 13, 14, 15, 16, 17, 2, 3, 5, 22, 23, 24, 25, 26, 27] (by decide +kernel) (by decide +kernel)
set_option maxRecDepth 20000 in
theorem gX6_isSane_X6_isSaneParent : GoodIn wsX6_isSane (wsV RX6 44 RX6 yX6_isSaneParent wsX6_isSaneParent) := goodIn_app (goodIn_of _ (by decide +kernel)) ggX6_isSane_X6_isSaneParent
set_option maxRecDepth 20000 in
theorem ggX6_isSane_X6_isLink : GoodIn wsX6_isSane wsX6_isLink := goodIn_r _ [13, 1, 14, 15, 16, 4, 17, 2, 3, 5, 22, 23, 24, 25, 26, 27] (by decide +kernel) (by decide +kernel)
set_option maxRecDepth 20000 in
theorem gX6_isSane_X6_isLink : GoodIn wsX6_isSane (wsV RX6 30 RX6 yX6_isLink wsX6_isLink) := goodIn_app (goodIn_of _ (by decide +kernel)) ggX6_isSane_X6_isLink
set_option maxRecDepth 20000 in
theorem ggX6_isSane_X6_k : GoodIn wsX6_isSane wsX6_k := goodIn_r _ [21, 1, 22, 23, 24, 25, 26, 27] (by decide +kernel) (by decide +kernel)
set_option maxRecDepth 20000 in
theorem gX6_isSane_X6_k : GoodIn wsX6_isSane (wsV RX6 47 RX6 yX6_k wsX6_k) := goodIn_app (goodIn_of _ (by decide +kernel)) ggX6_isSane_X6_k
theorem dX6_isSane_0 : decode cX6_isSane 0 = .ok (.aload_n 0, 1) := by decide +kernel
theorem dX6_isSane_1 : decode cX6_isSane 1 = .ok (.getfield 7, 3) := by decide +kernel
theorem dX6_isSane_4 : decode cX6_isSane 4 = .ok (.bipush 12, 2) := by decide +kernel
theorem dX6_isSane_6 : decode cX6_isSane 6 = .ok (.iload_n 1, 1) := by decide +kernel
theorem dX6_isSane_7 : decode cX6_isSane 7 = .ok (.iadd, 1) := by decide +kernel
theorem dX6_isSane_8 : decode cX6_isSane 8 = .ok (.iaload, 1) := by decide +kernel
theorem dX6_isSane_9 : decode cX6_isSane 9 = .ok (.iconst 0, 1) := by decide +kernel
theorem dX6_isSane_10 : decode cX6_isSane 10 = .ok (.aload_n 0, 1) := by decide +kernel
theorem dX6_isSane_11 : decode cX6_isSane 11 = .ok (.getfield 7, 3) := by decide +kernel
theorem dX6_isSane_14 : decode cX6_isSane 14 = .ok (.sipush 360, 3) := by decide +kernel
theorem dX6_isSane_17 : decode cX6_isSane 17 = .ok (.iaload, 1) := by decide +kernel
theorem dX6_isSane_18 : decode cX6_isSane 18 = .ok (.invokestatic 22, 3) := by decide +kernel
theorem dX6_isSane_21 : decode cX6_isSane 21 = .ok (.ifCond .eq 32, 3) := by decide +kernel
theorem dX6_isSane_24 : decode cX6_isSane 24 = .ok (.aload_n 0, 1) := by decide +kernel
theorem dX6_isSane_25 : decode cX6_isSane 25 = .ok (.iload_n 1, 1) := by decide +kernel
theorem dX6_isSane_26 : decode cX6_isSane 26 = .ok (.invokevirtual 44, 3) := by decide +kernel
theorem dX6_isSane_29 : decode cX6_isSane 29 = .ok (.ifCond .eq 24, 3) := by decide +kernel
theorem dX6_isSane_32 : decode cX6_isSane 32 = .ok (.aload_n 0, 1) := by decide +kernel
theorem dX6_isSane_33 : decode cX6_isSane 33 = .ok (.getfield 7, 3) := by decide +kernel
theorem dX6_isSane_36 : decode cX6_isSane 36 = .ok (.bipush 36, 2) := by decide +kernel
theorem dX6_isSane_38 : decode cX6_isSane 38 = .ok (.iload_n 1, 1) := by decide +kernel
theorem dX6_isSane_39 : decode cX6_isSane 39 = .ok (.iadd, 1) := by decide +kernel
theorem dX6_isSane_40 : decode cX6_isSane 40 = .ok (.iaload, 1) := by decide +kernel
theorem dX6_isSane_41 : decode cX6_isSane 41 = .ok (.iconst 0, 1) := by decide +kernel
theorem dX6_isSane_42 : decode cX6_isSane 42 = .ok (.iconst 2, 1) := by decide +kernel
theorem dX6_isSane_43 : decode cX6_isSane 43 = .ok (.invokestatic 22, 3) := by decide +kernel
theorem dX6_isSane_46 : decode cX6_isSane 46 = .ok (.ifCond .eq 7, 3) := by decide +kernel
theorem dX6_isSane_49 : decode cX6_isSane 49 = .ok (.iconst 1, 1) := by decide +kernel
theorem dX6_isSane_50 : decode cX6_isSane 50 = .ok (.goto 4, 3) := by decide +kernel
theorem dX6_isSane_53 : decode cX6_isSane 53 = .ok (.iconst 0, 1) := by decide +kernel
theorem dX6_isSane_54 : decode cX6_isSane 54 = .ok (.istore_n 2, 1) := by decide +kernel
theorem dX6_isSane_55 : decode cX6_isSane 55 = .ok (.iconst 0, 1) := by decide +kernel
theorem dX6_isSane_56 : decode cX6_isSane 56 = .ok (.istore_n 3, 1) := by decide +kernel
theorem dX6_isSane_57 : decode cX6_isSane 57 = .ok (.iload_n 3, 1) := by decide +kernel
theorem dX6_isSane_58 : decode cX6_isSane 58 = .ok (.aload_n 0, 1) := by decide +kernel
theorem dX6_isSane_59 : decode cX6_isSane 59 = .ok (.getfield 7, 3) := by decide +kernel
theorem dX6_isSane_62 : decode cX6_isSane 62 = .ok (.sipush 360, 3) := by decide +kernel
theorem dX6_isSane_65 : decode cX6_isSane 65 = .ok (.iaload, 1) := by decide +kernel
theorem dX6_isSane_66 : decode cX6_isSane 66 = .ok (.if_icmp .ge 55, 3) := by decide +kernel
theorem dX6_isSane_69 : decode cX6_isSane 69 = .ok (.iload_n 2, 1) := by decide +kernel
theorem dX6_isSane_70 : decode cX6_isSane 70 = .ok (.ifCond .eq 43, 3) := by decide +kernel
theorem dX6_isSane_73 : decode cX6_isSane 73 = .ok (.aload_n 0, 1) := by decide +kernel
theorem dX6_isSane_74 : decode cX6_isSane 74 = .ok (.iload_n 1, 1) := by decide +kernel
theorem dX6_isSane_75 : decode cX6_isSane 75 = .ok (.iload_n 3, 1) := by decide +kernel
theorem dX6_isSane_76 : decode cX6_isSane 76 = .ok (.invokevirtual 30, 3) := by decide +kernel
theorem dX6_isSane_79 : decode cX6_isSane 79 = .ok (.ifCond .eq 30, 3) := by decide +kernel
theorem dX6_isSane_82 : decode cX6_isSane 82 = .ok (.aload_n 0, 1) := by decide +kernel
theorem dX6_isSane_83 : decode cX6_isSane 83 = .ok (.getfield 7, 3) := by decide +kernel
theorem dX6_isSane_86 : decode cX6_isSane 86 = .ok (.bipush 72, 2) := by decide +kernel
theorem dX6_isSane_88 : decode cX6_isSane 88 = .ok (.bipush 12, 2) := by decide +kernel
theorem dX6_isSane_90 : decode cX6_isSane 90 = .ok (.iload_n 1, 1) := by decide +kernel
theorem dX6_isSane_91 : decode cX6_isSane 91 = .ok (.imul, 1) := by decide +kernel
theorem dX6_isSane_92 : decode cX6_isSane 92 = .ok (.iadd, 1) := by decide +kernel
theorem dX6_isSane_93 : decode cX6_isSane 93 = .ok (.iload_n 3, 1) := by decide +kernel
theorem dX6_isSane_94 : decode cX6_isSane 94 = .ok (.iadd, 1) := by decide +kernel
theorem dX6_isSane_95 : decode cX6_isSane 95 = .ok (.iaload, 1) := by decide +kernel
theorem dX6_isSane_96 : decode cX6_isSane 96 = .ok (.iconst 0, 1) := by decide +kernel
theorem dX6_isSane_97 : decode cX6_isSane 97 = .ok (.aload_n 0, 1) := by decide +kernel
theorem dX6_isSane_98 : decode cX6_isSane 98 = .ok (.invokevirtual 47, 3) := by decide +kernel
theorem dX6_isSane_101 : decode cX6_isSane 101 = .ok (.iconst 1, 1) := by decide +kernel
theorem dX6_isSane_102 : decode cX6_isSane 102 = .ok (.isub, 1) := by decide +kernel
theorem dX6_isSane_103 : decode cX6_isSane 103 = .ok (.invokestatic 22, 3) := by decide +kernel
theorem dX6_isSane_106 : decode cX6_isSane 106 = .ok (.ifCond .eq 7, 3) := by decide +kernel
theorem dX6_isSane_109 : decode cX6_isSane 109 = .ok (.iconst 1, 1) := by decide +kernel
theorem dX6_isSane_110 : decode cX6_isSane 110 = .ok (.goto 4, 3) := by decide +kernel
theorem dX6_isSane_113 : decode cX6_isSane 113 = .ok (.iconst 0, 1) := by decide +kernel
theorem dX6_isSane_114 : decode cX6_isSane 114 = .ok (.istore_n 2, 1) := by decide +kernel
theorem dX6_isSane_115 : decode cX6_isSane 115 = .ok (.iinc 3 1, 3) := by decide +kernel
theorem dX6_isSane_118 : decode cX6_isSane 118 = .ok (.goto (-61), 3) := by decide +kernel
theorem dX6_isSane_121 : decode cX6_isSane 121 = .ok (.iload_n 2, 1) := by decide +kernel
theorem dX6_isSane_122 : decode cX6_isSane 122 = .ok (.ireturn, 1) := by decide +kernel
set_option maxRecDepth 20000 in
theorem ggX6_treeParent_X6_isLink : GoodIn wsX6_treeParent wsX6_isLink := goodIn_r _ [6, 1, 7, 8, 9, 5, 10, 11, 12, 13, 18, 19, 20, 21, 22, 23] (by decide +kernel) (by decide +kernel)
set_option maxRecDepth 20000 in
theorem gX6_treeParent_X6_isLink : GoodIn wsX6_treeParent (wsV RX6 30 RX6 yX6_isLink wsX6_isLink) := goodIn_app (goodIn_of _ (by decide +kernel)) ggX6_treeParent_X6_isLink
set_option maxRecDepth 20000 in
theorem ggX6_treeParent_X6_distOf : GoodIn wsX6_treeParent wsX6_distOf := goodIn_r _ [17, 1, 11, 12, 5, 13, 18, 19, 20, 21, 22, 23] (by decide +kernel) (by decide +kernel)
set_option maxRecDepth 20000 in
theorem gX6_treeParent_X6_distOf : GoodIn wsX6_treeParent (wsV RX6 70 RX6 yX6_distOf wsX6_distOf) := goodIn_app (goodIn_of _ (by decide +kernel)) ggX6_treeParent_X6_distOf
theorem dX6_treeParent_0 : decode cX6_treeParent 0 = .ok (.iconst (-1), 1) := by decide +kernel
theorem dX6_treeParent_1 : decode cX6_treeParent 1 = .ok (.istore_n 2, 1) := by decide +kernel
theorem dX6_treeParent_2 : decode cX6_treeParent 2 = .ok (.iconst 0, 1) := by decide +kernel
theorem dX6_treeParent_3 : decode cX6_treeParent 3 = .ok (.istore_n 3, 1) := by decide +kernel
theorem dX6_treeParent_4 : decode cX6_treeParent 4 = .ok (.iload_n 3, 1) := by decide +kernel
theorem dX6_treeParent_5 : decode cX6_treeParent 5 = .ok (.aload_n 0, 1) := by decide +kernel
theorem dX6_treeParent_6 : decode cX6_treeParent 6 = .ok (.getfield 7, 3) := by decide +kernel
theorem dX6_treeParent_9 : decode cX6_treeParent 9 = .ok (.sipush 360, 3) := by decide +kernel
theorem dX6_treeParent_12 : decode cX6_treeParent 12 = .ok (.iaload, 1) := by decide +kernel
theorem dX6_treeParent_13 : decode cX6_treeParent 13 = .ok (.if_icmp .ge 42, 3) := by decide +kernel
theorem dX6_treeParent_16 : decode cX6_treeParent 16 = .ok (.iload_n 1, 1) := by decide +kernel
theorem dX6_treeParent_17 : decode cX6_treeParent 17 = .ok (.ifCond .eq 38, 3) := by decide +kernel
theorem dX6_treeParent_20 : decode cX6_treeParent 20 = .ok (.aload_n 0, 1) := by decide +kernel
theorem dX6_treeParent_21 : decode cX6_treeParent 21 = .ok (.iload_n 1, 1) := by decide +kernel
theorem dX6_treeParent_22 : decode cX6_treeParent 22 = .ok (.iload_n 3, 1) := by decide +kernel
theorem dX6_treeParent_23 : decode cX6_treeParent 23 = .ok (.invokevirtual 30, 3) := by decide +kernel
theorem dX6_treeParent_26 : decode cX6_treeParent 26 = .ok (.ifCond .eq 23, 3) := by decide +kernel
theorem dX6_treeParent_29 : decode cX6_treeParent 29 = .ok (.iload_n 2, 1) := by decide +kernel
theorem dX6_treeParent_30 : decode cX6_treeParent 30 = .ok (.iconst (-1), 1) := by decide +kernel
theorem dX6_treeParent_31 : decode cX6_treeParent 31 = .ok (.if_icmp .eq 16, 3) := by decide +kernel
theorem dX6_treeParent_34 : decode cX6_treeParent 34 = .ok (.aload_n 0, 1) := by decide +kernel
theorem dX6_treeParent_35 : decode cX6_treeParent 35 = .ok (.iload_n 3, 1) := by decide +kernel
theorem dX6_treeParent_36 : decode cX6_treeParent 36 = .ok (.invokevirtual 70, 3) := by decide +kernel
theorem dX6_treeParent_39 : decode cX6_treeParent 39 = .ok (.aload_n 0, 1) := by decide +kernel
theorem dX6_treeParent_40 : decode cX6_treeParent 40 = .ok (.iload_n 2, 1) := by decide +kernel
theorem dX6_treeParent_41 : decode cX6_treeParent 41 = .ok (.invokevirtual 70, 3) := by decide +kernel
theorem dX6_treeParent_44 : decode cX6_treeParent 44 = .ok (.if_icmp .ge 5, 3) := by decide +kernel
theorem dX6_treeParent_47 : decode cX6_treeParent 47 = .ok (.iload_n 3, 1) := by decide +kernel
theorem dX6_treeParent_48 : decode cX6_treeParent 48 = .ok (.istore_n 2, 1) := by decide +kernel
theorem dX6_treeParent_49 : decode cX6_treeParent 49 = .ok (.iinc 3 1, 3) := by decide +kernel
theorem dX6_treeParent_52 : decode cX6_treeParent 52 = .ok (.goto (-48), 3) := by decide +kernel
theorem dX6_treeParent_55 : decode cX6_treeParent 55 = .ok (.iload_n 2, 1) := by decide +kernel
theorem dX6_treeParent_56 : decode cX6_treeParent 56 = .ok (.ireturn, 1) := by decide +kernel
set_option maxRecDepth 20000 in
theorem ggX6_treeDist_X6_treeParent : GoodIn wsX6_treeDist wsX6_treeParent := goodIn_r _ [6, 1, 7, 8, 9, 5, 10, 11, 12, 13, 14, 15, 16, 17, 18, 19, 20, 21, 22, 23, 24, 25, 26, 27] (by decide +kernel) (by decide +kernel)
set_option maxRecDepth 20000 in
theorem gX6_treeDist_X6_treeParent : GoodIn wsX6_treeDist (wsV RX6 73 RX6 yX6_treeParent wsX6_treeParent) := goodIn_app (goodIn_of _ (by decide +kernel)) ggX6_treeDist_X6_treeParent
set_option maxRecDepth 20000 in
theorem ggX6_treeDist_X6_distOf : GoodIn wsX6_treeDist wsX6_distOf := goodIn_r _ [21, 1, 15, 16, 5, 17, 22, 23, 24, 25, 26, 27] (by decide +kernel) (by decide +kernel)
set_option maxRecDepth 20000 in
theorem gX6_treeDist_X6_distOf : GoodIn wsX6_treeDist (wsV RX6 70 RX6 yX6_distOf wsX6_distOf) := goodIn_app (goodIn_of _ (by decide +kernel)) ggX6_treeDist_X6_distOf
theorem dX6_treeDist_0 : decode cX6_treeDist 0 = .ok (.iload_n 1, 1) := by decide +kernel
theorem dX6_treeDist_1 : decode cX6_treeDist 1 = .ok (.ifCond .ne 5, 3) := by decide +kernel
theorem dX6_treeDist_4 : decode cX6_treeDist 4 = .ok (.iconst 0, 1) := by decide +kernel
theorem dX6_treeDist_5 : decode cX6_treeDist 5 = .ok (.ireturn, 1) := by decide +kernel
theorem dX6_treeDist_6 : decode cX6_treeDist 6 = .ok (.aload_n 0, 1) := by decide +kernel
theorem dX6_treeDist_7 : decode cX6_treeDist 7 = .ok (.aload_n 0, 1) := by decide +kernel
theorem dX6_treeDist_8 : decode cX6_treeDist 8 = .ok (.iload_n 1, 1) := by decide +kernel
theorem dX6_treeDist_9 : decode cX6_treeDist 9 = .ok (.invokevirtual 73, 3) := by decide +kernel
theorem dX6_treeDist_12 : decode cX6_treeDist 12 = .ok (.invokevirtual 70, 3) := by decide +kernel
theorem dX6_treeDist_15 : decode cX6_treeDist 15 = .ok (.iconst 1, 1) := by decide +kernel
theorem dX6_treeDist_16 : decode cX6_treeDist 16 = .ok (.iadd, 1) := by decide +kernel
theorem dX6_treeDist_17 : decode cX6_treeDist 17 = .ok (.istore_n 2, 1) := by decide +kernel
theorem dX6_treeDist_18 : decode cX6_treeDist 18 = .ok (.iload_n 2, 1) := by decide +kernel
theorem dX6_treeDist_19 : decode cX6_treeDist 19 = .ok (.aload_n 0, 1) := by decide +kernel
theorem dX6_treeDist_20 : decode cX6_treeDist 20 = .ok (.getfield 7, 3) := by decide +kernel
theorem dX6_treeDist_23 : decode cX6_treeDist 23 = .ok (.sipush 360, 3) := by decide +kernel
theorem dX6_treeDist_26 : decode cX6_treeDist 26 = .ok (.iaload, 1) := by decide +kernel
theorem dX6_treeDist_27 : decode cX6_treeDist 27 = .ok (.if_icmp .le 14, 3) := by decide +kernel
theorem dX6_treeDist_30 : decode cX6_treeDist 30 = .ok (.aload_n 0, 1) := by decide +kernel
theorem dX6_treeDist_31 : decode cX6_treeDist 31 = .ok (.getfield 7, 3) := by decide +kernel
theorem dX6_treeDist_34 : decode cX6_treeDist 34 = .ok (.sipush 360, 3) := by decide +kernel
theorem dX6_treeDist_37 : decode cX6_treeDist 37 = .ok (.iaload, 1) := by decide +kernel
theorem dX6_treeDist_38 : decode cX6_treeDist 38 = .ok (.goto 4, 3) := by decide +kernel
theorem dX6_treeDist_41 : decode cX6_treeDist 41 = .ok (.iload_n 2, 1) := by decide +kernel
theorem dX6_treeDist_42 : decode cX6_treeDist 42 = .ok (.ireturn, 1) := by decide +kernel
set_option maxRecDepth 20000 in
theorem ggX6_allChildren_X6_isChild : GoodIn wsX6_allChildren wsX6_isChild := goodIn_r _ [6, 7, 8, 9, 5, 10, 1, 11, 12, 13, 14, 15, 16, 17, 18, 19, 20, 21, 22, 23, 24, 25, 30, 31, 32, 33, 34, 35] (by decide +kernel) (by decide +kernel)
set_option maxRecDepth 20000 in
theorem gX6_allChildren_X6_isChild : GoodIn wsX6_allChildren (wsV RX6 54 RX6 yX6_isChild wsX6_isChild) := goodIn_app (goodIn_of _ (by decide +kernel)) ggX6_allChildren_X6_isChild
set_option maxRecDepth 20000 in
theorem ggX6_allChildren_X6_phaseOf : GoodIn wsX6_allChildren wsX6_phaseOf := goodIn_r _ [29, 1, 15, 16, 5, 17, 30, 31, 32, 33, 34, 35] (by decide +kernel) (by decide +kernel)
set_option maxRecDepth 20000 in
theorem gX6_allChildren_X6_phaseOf : GoodIn wsX6_allChildren (wsV RX6 76 RX6 yX6_phaseOf wsX6_phaseOf) := goodIn_app (goodIn_of _ (by decide +kernel)) ggX6_allChildren_X6_phaseOf
theorem dX6_allChildren_0 : decode cX6_allChildren 0 = .ok (.iconst 1, 1) := by decide +kernel
theorem dX6_allChildren_1 : decode cX6_allChildren 1 = .ok (.istore_n 3, 1) := by decide +kernel
theorem dX6_allChildren_2 : decode cX6_allChildren 2 = .ok (.iconst 0, 1) := by decide +kernel
theorem dX6_allChildren_3 : decode cX6_allChildren 3 = .ok (.istore 4, 2) := by decide +kernel
theorem dX6_allChildren_5 : decode cX6_allChildren 5 = .ok (.iload 4, 2) := by decide +kernel
theorem dX6_allChildren_7 : decode cX6_allChildren 7 = .ok (.aload_n 0, 1) := by decide +kernel
theorem dX6_allChildren_8 : decode cX6_allChildren 8 = .ok (.getfield 7, 3) := by decide +kernel
theorem dX6_allChildren_11 : decode cX6_allChildren 11 = .ok (.sipush 360, 3) := by decide +kernel
theorem dX6_allChildren_14 : decode cX6_allChildren 14 = .ok (.iaload, 1) := by decide +kernel
theorem dX6_allChildren_15 : decode cX6_allChildren 15 = .ok (.if_icmp .ge 39, 3) := by decide +kernel
theorem dX6_allChildren_18 : decode cX6_allChildren 18 = .ok (.iload_n 3, 1) := by decide +kernel
theorem dX6_allChildren_19 : decode cX6_allChildren 19 = .ok (.ifCond .eq 27, 3) := by decide +kernel
theorem dX6_allChildren_22 : decode cX6_allChildren 22 = .ok (.aload_n 0, 1) := by decide +kernel
theorem dX6_allChildren_23 : decode cX6_allChildren 23 = .ok (.iload_n 1, 1) := by decide +kernel
theorem dX6_allChildren_24 : decode cX6_allChildren 24 = .ok (.iload 4, 2) := by decide +kernel
theorem dX6_allChildren_26 : decode cX6_allChildren 26 = .ok (.invokevirtual 54, 3) := by decide +kernel
theorem dX6_allChildren_29 : decode cX6_allChildren 29 = .ok (.ifCond .eq 13, 3) := by decide +kernel
theorem dX6_allChildren_32 : decode cX6_allChildren 32 = .ok (.aload_n 0, 1) := by decide +kernel
theorem dX6_allChildren_33 : decode cX6_allChildren 33 = .ok (.iload 4, 2) := by decide +kernel
theorem dX6_allChildren_35 : decode cX6_allChildren 35 = .ok (.invokevirtual 76, 3) := by decide +kernel
theorem dX6_allChildren_38 : decode cX6_allChildren 38 = .ok (.iload_n 2, 1) := by decide +kernel
theorem dX6_allChildren_39 : decode cX6_allChildren 39 = .ok (.if_icmp .ne 7, 3) := by decide +kernel
theorem dX6_allChildren_42 : decode cX6_allChildren 42 = .ok (.iconst 1, 1) := by decide +kernel
theorem dX6_allChildren_43 : decode cX6_allChildren 43 = .ok (.goto 4, 3) := by decide +kernel
theorem dX6_allChildren_46 : decode cX6_allChildren 46 = .ok (.iconst 0, 1) := by decide +kernel
theorem dX6_allChildren_47 : decode cX6_allChildren 47 = .ok (.istore_n 3, 1) := by decide +kernel
theorem dX6_allChildren_48 : decode cX6_allChildren 48 = .ok (.iinc 4 1, 3) := by decide +kernel
theorem dX6_allChildren_51 : decode cX6_allChildren 51 = .ok (.goto (-46), 3) := by decide +kernel
theorem dX6_allChildren_54 : decode cX6_allChildren 54 = .ok (.iload_n 3, 1) := by decide +kernel
theorem dX6_allChildren_55 : decode cX6_allChildren 55 = .ok (.ireturn, 1) := by decide +kernel
set_option maxRecDepth 20000 in
theorem ggX6_wavePhase_X6_allChildren : GoodIn wsX6_wavePhase wsX6_allChildren := goodIn_r _ [6, 1, 7, 8, 9, 5, 10, 11, 12, 13, 14, 15, 16, 17, 18, 19, 20, 21, 22, 23, 24, 25, 26, 27, 28, 29, 30, 31, 32, 33, 34, 35, 36, 37, 38, 39] (by decide +kernel) (by decide +kernel)
set_option maxRecDepth 20000 in
theorem gX6_wavePhase_X6_allChildren : GoodIn wsX6_wavePhase (wsV RX6 79 RX6 yX6_allChildren wsX6_allChildren) := goodIn_app (goodIn_of _ (by decide +kernel)) ggX6_wavePhase_X6_allChildren
set_option maxRecDepth 20000 in
theorem ggX6_wavePhase_X6_parentOf : GoodIn wsX6_wavePhase wsX6_parentOf := goodIn_r _ [25, 1, 26, 27, 28, 5, 29, 11, 12, 13, 14, 15, 16, 17, 18, 19, 20, 21, 34, 35, 36, 37, 38, 39] (by decide +kernel) (by decide +kernel)
set_option maxRecDepth 20000 in
theorem gX6_wavePhase_X6_parentOf : GoodIn wsX6_wavePhase (wsV RX6 50 RX6 yX6_parentOf wsX6_parentOf) := goodIn_app (goodIn_of _ (by decide +kernel)) ggX6_wavePhase_X6_parentOf
set_option maxRecDepth 20000 in
theorem ggX6_wavePhase_X6_phaseOf : GoodIn wsX6_wavePhase wsX6_phaseOf := goodIn_r _ [33, 1, 19, 20, 5, 21, 34, 35, 36, 37, 38, 39] (by decide +kernel) (by decide +kernel)
set_option maxRecDepth 20000 in
theorem gX6_wavePhase_X6_phaseOf : GoodIn wsX6_wavePhase (wsV RX6 76 RX6 yX6_phaseOf wsX6_phaseOf) := goodIn_app (goodIn_of _ (by decide +kernel)) ggX6_wavePhase_X6_phaseOf
theorem dX6_wavePhase_0 : decode cX6_wavePhase 0 = .ok (.aload_n 0, 1) := by decide +kernel
theorem dX6_wavePhase_1 : decode cX6_wavePhase 1 = .ok (.getfield 7, 3) := by decide +kernel
theorem dX6_wavePhase_4 : decode cX6_wavePhase 4 = .ok (.bipush 36, 2) := by decide +kernel
theorem dX6_wavePhase_6 : decode cX6_wavePhase 6 = .ok (.iload_n 1, 1) := by decide +kernel
theorem dX6_wavePhase_7 : decode cX6_wavePhase 7 = .ok (.iadd, 1) := by decide +kernel
theorem dX6_wavePhase_8 : decode cX6_wavePhase 8 = .ok (.iaload, 1) := by decide +kernel
theorem dX6_wavePhase_9 : decode cX6_wavePhase 9 = .ok (.istore_n 2, 1) := by decide +kernel
theorem dX6_wavePhase_10 : decode cX6_wavePhase 10 = .ok (.iload_n 1, 1) := by decide +kernel
theorem dX6_wavePhase_11 : decode cX6_wavePhase 11 = .ok (.ifCond .ne 45, 3) := by decide +kernel
theorem dX6_wavePhase_14 : decode cX6_wavePhase 14 = .ok (.iload_n 2, 1) := by decide +kernel
theorem dX6_wavePhase_15 : decode cX6_wavePhase 15 = .ok (.ifCond .ne 16, 3) := by decide +kernel
theorem dX6_wavePhase_18 : decode cX6_wavePhase 18 = .ok (.aload_n 0, 1) := by decide +kernel
theorem dX6_wavePhase_19 : decode cX6_wavePhase 19 = .ok (.iload_n 1, 1) := by decide +kernel
theorem dX6_wavePhase_20 : decode cX6_wavePhase 20 = .ok (.iconst 0, 1) := by decide +kernel
theorem dX6_wavePhase_21 : decode cX6_wavePhase 21 = .ok (.invokevirtual 79, 3) := by decide +kernel
theorem dX6_wavePhase_24 : decode cX6_wavePhase 24 = .ok (.ifCond .eq 7, 3) := by decide +kernel
theorem dX6_wavePhase_27 : decode cX6_wavePhase 27 = .ok (.iconst 1, 1) := by decide +kernel
theorem dX6_wavePhase_28 : decode cX6_wavePhase 28 = .ok (.goto 27, 3) := by decide +kernel
theorem dX6_wavePhase_31 : decode cX6_wavePhase 31 = .ok (.iload_n 2, 1) := by decide +kernel
theorem dX6_wavePhase_32 : decode cX6_wavePhase 32 = .ok (.iconst 1, 1) := by decide +kernel
theorem dX6_wavePhase_33 : decode cX6_wavePhase 33 = .ok (.if_icmp .ne 12, 3) := by decide +kernel
theorem dX6_wavePhase_36 : decode cX6_wavePhase 36 = .ok (.aload_n 0, 1) := by decide +kernel
theorem dX6_wavePhase_37 : decode cX6_wavePhase 37 = .ok (.iload_n 1, 1) := by decide +kernel
theorem dX6_wavePhase_38 : decode cX6_wavePhase 38 = .ok (.iconst 2, 1) := by decide +kernel
theorem dX6_wavePhase_39 : decode cX6_wavePhase 39 = .ok (.invokevirtual 79, 3) := by decide +kernel
theorem dX6_wavePhase_42 : decode cX6_wavePhase 42 = .ok (.ifCond .ne 8, 3) := by decide +kernel
theorem dX6_wavePhase_45 : decode cX6_wavePhase 45 = .ok (.iload_n 2, 1) := by decide +kernel
theorem dX6_wavePhase_46 : decode cX6_wavePhase 46 = .ok (.iconst 2, 1) := by decide +kernel
theorem dX6_wavePhase_47 : decode cX6_wavePhase 47 = .ok (.if_icmp .ne 7, 3) := by decide +kernel
theorem dX6_wavePhase_50 : decode cX6_wavePhase 50 = .ok (.iconst 0, 1) := by decide +kernel
theorem dX6_wavePhase_51 : decode cX6_wavePhase 51 = .ok (.goto 4, 3) := by decide +kernel
theorem dX6_wavePhase_54 : decode cX6_wavePhase 54 = .ok (.iload_n 2, 1) := by decide +kernel
theorem dX6_wavePhase_55 : decode cX6_wavePhase 55 = .ok (.ireturn, 1) := by decide +kernel
theorem dX6_wavePhase_56 : decode cX6_wavePhase 56 = .ok (.aload_n 0, 1) := by decide +kernel
theorem dX6_wavePhase_57 : decode cX6_wavePhase 57 = .ok (.iload_n 1, 1) := by decide +kernel
theorem dX6_wavePhase_58 : decode cX6_wavePhase 58 = .ok (.invokevirtual 50, 3) := by decide +kernel
theorem dX6_wavePhase_61 : decode cX6_wavePhase 61 = .ok (.iconst (-1), 1) := by decide +kernel
theorem dX6_wavePhase_62 : decode cX6_wavePhase 62 = .ok (.if_icmp .ne 7, 3) := by decide +kernel
theorem dX6_wavePhase_65 : decode cX6_wavePhase 65 = .ok (.iconst 0, 1) := by decide +kernel
theorem dX6_wavePhase_66 : decode cX6_wavePhase 66 = .ok (.goto 12, 3) := by decide +kernel
theorem dX6_wavePhase_69 : decode cX6_wavePhase 69 = .ok (.aload_n 0, 1) := by decide +kernel
theorem dX6_wavePhase_70 : decode cX6_wavePhase 70 = .ok (.aload_n 0, 1) := by decide +kernel
theorem dX6_wavePhase_71 : decode cX6_wavePhase 71 = .ok (.iload_n 1, 1) := by decide +kernel
theorem dX6_wavePhase_72 : decode cX6_wavePhase 72 = .ok (.invokevirtual 50, 3) := by decide +kernel
theorem dX6_wavePhase_75 : decode cX6_wavePhase 75 = .ok (.invokevirtual 76, 3) := by decide +kernel
theorem dX6_wavePhase_78 : decode cX6_wavePhase 78 = .ok (.istore_n 3, 1) := by decide +kernel
theorem dX6_wavePhase_79 : decode cX6_wavePhase 79 = .ok (.iload_n 2, 1) := by decide +kernel
theorem dX6_wavePhase_80 : decode cX6_wavePhase 80 = .ok (.ifCond .ne 23, 3) := by decide +kernel
theorem dX6_wavePhase_83 : decode cX6_wavePhase 83 = .ok (.iload_n 3, 1) := by decide +kernel
theorem dX6_wavePhase_84 : decode cX6_wavePhase 84 = .ok (.iconst 1, 1) := by decide +kernel
theorem dX6_wavePhase_85 : decode cX6_wavePhase 85 = .ok (.if_icmp .ne 16, 3) := by decide +kernel
theorem dX6_wavePhase_88 : decode cX6_wavePhase 88 = .ok (.aload_n 0, 1) := by decide +kernel
theorem dX6_wavePhase_89 : decode cX6_wavePhase 89 = .ok (.iload_n 1, 1) := by decide +kernel
theorem dX6_wavePhase_90 : decode cX6_wavePhase 90 = .ok (.iconst 0, 1) := by decide +kernel
theorem dX6_wavePhase_91 : decode cX6_wavePhase 91 = .ok (.invokevirtual 79, 3) := by decide +kernel
theorem dX6_wavePhase_94 : decode cX6_wavePhase 94 = .ok (.ifCond .eq 7, 3) := by decide +kernel
theorem dX6_wavePhase_97 : decode cX6_wavePhase 97 = .ok (.iconst 1, 1) := by decide +kernel
theorem dX6_wavePhase_98 : decode cX6_wavePhase 98 = .ok (.goto 4, 3) := by decide +kernel
theorem dX6_wavePhase_101 : decode cX6_wavePhase 101 = .ok (.iload_n 2, 1) := by decide +kernel
theorem dX6_wavePhase_102 : decode cX6_wavePhase 102 = .ok (.ireturn, 1) := by decide +kernel
theorem dX6_wavePhase_103 : decode cX6_wavePhase 103 = .ok (.iload_n 2, 1) := by decide +kernel
theorem dX6_wavePhase_104 : decode cX6_wavePhase 104 = .ok (.iconst 1, 1) := by decide +kernel
theorem dX6_wavePhase_105 : decode cX6_wavePhase 105 = .ok (.if_icmp .ne 27, 3) := by decide +kernel
theorem dX6_wavePhase_108 : decode cX6_wavePhase 108 = .ok (.iload_n 3, 1) := by decide +kernel
theorem dX6_wavePhase_109 : decode cX6_wavePhase 109 = .ok (.iconst 1, 1) := by decide +kernel
theorem dX6_wavePhase_110 : decode cX6_wavePhase 110 = .ok (.if_icmp .eq 7, 3) := by decide +kernel
theorem dX6_wavePhase_113 : decode cX6_wavePhase 113 = .ok (.iconst 0, 1) := by decide +kernel
theorem dX6_wavePhase_114 : decode cX6_wavePhase 114 = .ok (.goto 17, 3) := by decide +kernel
theorem dX6_wavePhase_117 : decode cX6_wavePhase 117 = .ok (.aload_n 0, 1) := by decide +kernel
theorem dX6_wavePhase_118 : decode cX6_wavePhase 118 = .ok (.iload_n 1, 1) := by decide +kernel
theorem dX6_wavePhase_119 : decode cX6_wavePhase 119 = .ok (.iconst 2, 1) := by decide +kernel
theorem dX6_wavePhase_120 : decode cX6_wavePhase 120 = .ok (.invokevirtual 79, 3) := by decide +kernel
theorem dX6_wavePhase_123 : decode cX6_wavePhase 123 = .ok (.ifCond .eq 7, 3) := by decide +kernel
theorem dX6_wavePhase_126 : decode cX6_wavePhase 126 = .ok (.iconst 2, 1) := by decide +kernel
theorem dX6_wavePhase_127 : decode cX6_wavePhase 127 = .ok (.goto 4, 3) := by decide +kernel
theorem dX6_wavePhase_130 : decode cX6_wavePhase 130 = .ok (.iload_n 2, 1) := by decide +kernel
theorem dX6_wavePhase_131 : decode cX6_wavePhase 131 = .ok (.ireturn, 1) := by decide +kernel
theorem dX6_wavePhase_132 : decode cX6_wavePhase 132 = .ok (.iload_n 3, 1) := by decide +kernel
theorem dX6_wavePhase_133 : decode cX6_wavePhase 133 = .ok (.ifCond .ne 7, 3) := by decide +kernel
theorem dX6_wavePhase_136 : decode cX6_wavePhase 136 = .ok (.iconst 0, 1) := by decide +kernel
theorem dX6_wavePhase_137 : decode cX6_wavePhase 137 = .ok (.goto 4, 3) := by decide +kernel
theorem dX6_wavePhase_140 : decode cX6_wavePhase 140 = .ok (.iload_n 2, 1) := by decide +kernel
theorem dX6_wavePhase_141 : decode cX6_wavePhase 141 = .ok (.ireturn, 1) := by decide +kernel
set_option maxRecDepth 20000 in
theorem ggX6_firstRight_X6_isTie : GoodIn wsX6_firstRight wsX6_isTie := goodIn_r _ [6, 7, 8, 9, 5, 10, 11, 12, 13, 14, 1, 15, 16, 17, 18, 19, 20, 21, 22, 23, 24, 25, 26, 27, 28, 29, 50, 51, 52, 53, 54, 55] (by decide +kernel) (by decide +kernel)
set_option maxRecDepth 20000 in
theorem gX6_firstRight_X6_isTie : GoodIn wsX6_firstRight (wsV RX6 57 RX6 yX6_isTie wsX6_isTie) := goodIn_app (goodIn_of _ (by decide +kernel)) ggX6_firstRight_X6_isTie
set_option maxRecDepth 20000 in
theorem ggX6_firstRight_X6_hasRight : GoodIn wsX6_firstRight wsX6_hasRight := goodIn_r _ [33, 34, 35, 36, 5, 37, 1, 38, 39, 40, 41, 19, 20, 21, 42, 43, 44, 45, 2, 3, 4, 6, 7, 8, 9, 10, 11, 12, 13, 14, 15, 16, 17, 18, 22, 23, 24, 25, 26, 27, 28, 29, 46, 47, 48, 49, 50, 51, 52, 53, 54, 55] (by decide +kernel) (by decide +kernel)
set_option maxRecDepth 20000 in
theorem gX6_firstRight_X6_hasRight : GoodIn wsX6_firstRight (wsV RX6 82 RX6 yX6_hasRight wsX6_hasRight) := goodIn_app (goodIn_of _ (by decide +kernel)) ggX6_firstRight_X6_hasRight
theorem dX6_firstRight_0 : decode cX6_firstRight 0 = .ok (.iconst 0, 1) := by decide +kernel
theorem dX6_firstRight_1 : decode cX6_firstRight 1 = .ok (.istore_n 2, 1) := by decide +kernel
theorem dX6_firstRight_2 : decode cX6_firstRight 2 = .ok (.iload_n 2, 1) := by decide +kernel
theorem dX6_firstRight_3 : decode cX6_firstRight 3 = .ok (.aload_n 0, 1) := by decide +kernel
theorem dX6_firstRight_4 : decode cX6_firstRight 4 = .ok (.getfield 7, 3) := by decide +kernel
theorem dX6_firstRight_7 : decode cX6_firstRight 7 = .ok (.sipush 360, 3) := by decide +kernel
theorem dX6_firstRight_10 : decode cX6_firstRight 10 = .ok (.iaload, 1) := by decide +kernel
theorem dX6_firstRight_11 : decode cX6_firstRight 11 = .ok (.if_icmp .ge 29, 3) := by decide +kernel
theorem dX6_firstRight_14 : decode cX6_firstRight 14 = .ok (.aload_n 0, 1) := by decide +kernel
theorem dX6_firstRight_15 : decode cX6_firstRight 15 = .ok (.iload_n 1, 1) := by decide +kernel
theorem dX6_firstRight_16 : decode cX6_firstRight 16 = .ok (.iload_n 2, 1) := by decide +kernel
theorem dX6_firstRight_17 : decode cX6_firstRight 17 = .ok (.invokevirtual 57, 3) := by decide +kernel
theorem dX6_firstRight_20 : decode cX6_firstRight 20 = .ok (.ifCond .eq 14, 3) := by decide +kernel
theorem dX6_firstRight_23 : decode cX6_firstRight 23 = .ok (.aload_n 0, 1) := by decide +kernel
theorem dX6_firstRight_24 : decode cX6_firstRight 24 = .ok (.iload_n 1, 1) := by decide +kernel
theorem dX6_firstRight_25 : decode cX6_firstRight 25 = .ok (.iload_n 2, 1) := by decide +kernel
theorem dX6_firstRight_26 : decode cX6_firstRight 26 = .ok (.invokevirtual 82, 3) := by decide +kernel
theorem dX6_firstRight_29 : decode cX6_firstRight 29 = .ok (.ifCond .eq 5, 3) := by decide +kernel
theorem dX6_firstRight_32 : decode cX6_firstRight 32 = .ok (.iload_n 2, 1) := by decide +kernel
theorem dX6_firstRight_33 : decode cX6_firstRight 33 = .ok (.ireturn, 1) := by decide +kernel
theorem dX6_firstRight_34 : decode cX6_firstRight 34 = .ok (.iinc 2 1, 3) := by decide +kernel
theorem dX6_firstRight_37 : decode cX6_firstRight 37 = .ok (.goto (-35), 3) := by decide +kernel
theorem dX6_firstRight_40 : decode cX6_firstRight 40 = .ok (.iconst (-1), 1) := by decide +kernel
theorem dX6_firstRight_41 : decode cX6_firstRight 41 = .ok (.ireturn, 1) := by decide +kernel
set_option maxRecDepth 20000 in
theorem ggX6_ruleOf_X6_isSane : GoodIn wsX6_ruleOf wsX6_isSane := goodIn_r _ [6, 1, 7, 8, 5, 9, 10, 11, 12, 13, 14, 15, 16, 17, 18, 19, 20, 21, 22, 23, 24, 25, 82, 83, 84, 85, 86, 87] (by decide +kernel) (by decide +kernel)
set_option maxRecDepth 20000 in
theorem gX6_ruleOf_X6_isSane : GoodIn wsX6_ruleOf (wsV RX6 85 RX6 yX6_isSane wsX6_isSane) := goodIn_app (goodIn_of _ (by decide +kernel)) ggX6_ruleOf_X6_isSane
set_option maxRecDepth 20000 in
theorem ggX6_ruleOf_X6_treeDist : GoodIn wsX6_ruleOf wsX6_treeDist := goodIn_r _ [29, 1, 30, 31, 32, 5, 33, 14, 15, 16, 17, 18, 19, 20, 21, 7, 8, 9, 34, 35, 36, 37, 82, 83, 84, 85, 86, 87] (by decide +kernel) (by decide +kernel)
set_option maxRecDepth 20000 in
theorem gX6_ruleOf_X6_treeDist : GoodIn wsX6_ruleOf (wsV RX6 88 RX6 yX6_treeDist wsX6_treeDist) := goodIn_app (goodIn_of _ (by decide +kernel)) ggX6_ruleOf_X6_treeDist
set_option maxRecDepth 20000 in
theorem ggX6_ruleOf_X6_treeParent : GoodIn wsX6_ruleOf wsX6_treeParent := goodIn_r _ [33, 1, 14, 15, 16, 5, 17, 18, 19, 20, 21, 7, 8, 9, 34, 35, 36, 37, 82, 83, 84, 85, 86, 87] (by decide +kernel) (by decide +kernel)
set_option maxRecDepth 20000 in
theorem gX6_ruleOf_X6_treeParent : GoodIn wsX6_ruleOf (wsV RX6 73 RX6 yX6_treeParent wsX6_treeParent) := goodIn_app (goodIn_of _ (by decide +kernel)) ggX6_ruleOf_X6_treeParent
set_option maxRecDepth 20000 in
theorem ggX6_ruleOf_X6_wavePhase : GoodIn wsX6_ruleOf wsX6_wavePhase := goodIn_r _ [41, 1, 42, 43, 44, 5, 45, 46, 47, 48, 49, 14, 15, 16, 17, 18, 19, 20, 21, 7, 8, 9, 50, 51, 52, 53, 10, 11, 12, 13, 54, 55, 56, 57, 82, 83, 84, 85, 86, 87] (by decide +kernel) (by decide +kernel)
set_option maxRecDepth 20000 in
theorem gX6_ruleOf_X6_wavePhase : GoodIn wsX6_ruleOf (wsV RX6 91 RX6 yX6_wavePhase wsX6_wavePhase) := goodIn_app (goodIn_of _ (by decide +kernel)) ggX6_ruleOf_X6_wavePhase
set_option maxRecDepth 20000 in
theorem ggX6_ruleOf_X6_firstRight : GoodIn wsX6_ruleOf wsX6_firstRight := goodIn_r _ [61, 1, 62, 63, 64, 5, 65, 46, 47, 48, 49, 14, 15, 16, 17, 18, 19, 20, 21, 7, 8, 9, 50, 51, 52, 53, 10, 11, 12, 13, 66, 67, 68, 69, 70, 71, 72, 73, 22, 23, 24, 25, 74, 75, 76, 77, 78, 79, 80, 81, 82, 83, 84, 85, 86, 87] (by decide +kernel) (by decide +kernel)
set_option maxRecDepth 20000 in
theorem gX6_ruleOf_X6_firstRight : GoodIn wsX6_ruleOf (wsV RX6 94 RX6 yX6_firstRight wsX6_firstRight) := goodIn_app (goodIn_of _ (by decide +kernel)) ggX6_ruleOf_X6_firstRight
theorem dX6_ruleOf_0 : decode cX6_ruleOf 0 = .ok (.aload_n 0, 1) := by decide +kernel
theorem dX6_ruleOf_1 : decode cX6_ruleOf 1 = .ok (.iload_n 1, 1) := by decide +kernel
theorem dX6_ruleOf_2 : decode cX6_ruleOf 2 = .ok (.invokevirtual 85, 3) := by decide +kernel
theorem dX6_ruleOf_5 : decode cX6_ruleOf 5 = .ok (.ifCond .ne 5, 3) := by decide +kernel
theorem dX6_ruleOf_8 : decode cX6_ruleOf 8 = .ok (.iconst 0, 1) := by decide +kernel
theorem dX6_ruleOf_9 : decode cX6_ruleOf 9 = .ok (.ireturn, 1) := by decide +kernel
theorem dX6_ruleOf_10 : decode cX6_ruleOf 10 = .ok (.aload_n 0, 1) := by decide +kernel
theorem dX6_ruleOf_11 : decode cX6_ruleOf 11 = .ok (.getfield 7, 3) := by decide +kernel
theorem dX6_ruleOf_14 : decode cX6_ruleOf 14 = .ok (.bipush 12, 2) := by decide +kernel
theorem dX6_ruleOf_16 : decode cX6_ruleOf 16 = .ok (.iload_n 1, 1) := by decide +kernel
theorem dX6_ruleOf_17 : decode cX6_ruleOf 17 = .ok (.iadd, 1) := by decide +kernel
theorem dX6_ruleOf_18 : decode cX6_ruleOf 18 = .ok (.iaload, 1) := by decide +kernel
theorem dX6_ruleOf_19 : decode cX6_ruleOf 19 = .ok (.aload_n 0, 1) := by decide +kernel
theorem dX6_ruleOf_20 : decode cX6_ruleOf 20 = .ok (.iload_n 1, 1) := by decide +kernel
theorem dX6_ruleOf_21 : decode cX6_ruleOf 21 = .ok (.invokevirtual 88, 3) := by decide +kernel
theorem dX6_ruleOf_24 : decode cX6_ruleOf 24 = .ok (.if_icmp .ne 20, 3) := by decide +kernel
theorem dX6_ruleOf_27 : decode cX6_ruleOf 27 = .ok (.aload_n 0, 1) := by decide +kernel
theorem dX6_ruleOf_28 : decode cX6_ruleOf 28 = .ok (.getfield 7, 3) := by decide +kernel
theorem dX6_ruleOf_31 : decode cX6_ruleOf 31 = .ok (.bipush 24, 2) := by decide +kernel
theorem dX6_ruleOf_33 : decode cX6_ruleOf 33 = .ok (.iload_n 1, 1) := by decide +kernel
theorem dX6_ruleOf_34 : decode cX6_ruleOf 34 = .ok (.iadd, 1) := by decide +kernel
theorem dX6_ruleOf_35 : decode cX6_ruleOf 35 = .ok (.iaload, 1) := by decide +kernel
theorem dX6_ruleOf_36 : decode cX6_ruleOf 36 = .ok (.aload_n 0, 1) := by decide +kernel
theorem dX6_ruleOf_37 : decode cX6_ruleOf 37 = .ok (.iload_n 1, 1) := by decide +kernel
theorem dX6_ruleOf_38 : decode cX6_ruleOf 38 = .ok (.invokevirtual 73, 3) := by decide +kernel
theorem dX6_ruleOf_41 : decode cX6_ruleOf 41 = .ok (.if_icmp .eq 5, 3) := by decide +kernel
theorem dX6_ruleOf_44 : decode cX6_ruleOf 44 = .ok (.iconst 1, 1) := by decide +kernel
theorem dX6_ruleOf_45 : decode cX6_ruleOf 45 = .ok (.ireturn, 1) := by decide +kernel
theorem dX6_ruleOf_46 : decode cX6_ruleOf 46 = .ok (.aload_n 0, 1) := by decide +kernel
theorem dX6_ruleOf_47 : decode cX6_ruleOf 47 = .ok (.iload_n 1, 1) := by decide +kernel
theorem dX6_ruleOf_48 : decode cX6_ruleOf 48 = .ok (.invokevirtual 91, 3) := by decide +kernel
theorem dX6_ruleOf_51 : decode cX6_ruleOf 51 = .ok (.aload_n 0, 1) := by decide +kernel
theorem dX6_ruleOf_52 : decode cX6_ruleOf 52 = .ok (.getfield 7, 3) := by decide +kernel
theorem dX6_ruleOf_55 : decode cX6_ruleOf 55 = .ok (.bipush 36, 2) := by decide +kernel
theorem dX6_ruleOf_57 : decode cX6_ruleOf 57 = .ok (.iload_n 1, 1) := by decide +kernel
theorem dX6_ruleOf_58 : decode cX6_ruleOf 58 = .ok (.iadd, 1) := by decide +kernel
theorem dX6_ruleOf_59 : decode cX6_ruleOf 59 = .ok (.iaload, 1) := by decide +kernel
theorem dX6_ruleOf_60 : decode cX6_ruleOf 60 = .ok (.if_icmp .eq 5, 3) := by decide +kernel
theorem dX6_ruleOf_63 : decode cX6_ruleOf 63 = .ok (.iconst 2, 1) := by decide +kernel
theorem dX6_ruleOf_64 : decode cX6_ruleOf 64 = .ok (.ireturn, 1) := by decide +kernel
theorem dX6_ruleOf_65 : decode cX6_ruleOf 65 = .ok (.aload_n 0, 1) := by decide +kernel
theorem dX6_ruleOf_66 : decode cX6_ruleOf 66 = .ok (.iload_n 1, 1) := by decide +kernel
theorem dX6_ruleOf_67 : decode cX6_ruleOf 67 = .ok (.invokevirtual 94, 3) := by decide +kernel
theorem dX6_ruleOf_70 : decode cX6_ruleOf 70 = .ok (.iconst (-1), 1) := by decide +kernel
theorem dX6_ruleOf_71 : decode cX6_ruleOf 71 = .ok (.if_icmp .eq 7, 3) := by decide +kernel
theorem dX6_ruleOf_74 : decode cX6_ruleOf 74 = .ok (.iconst 3, 1) := by decide +kernel
theorem dX6_ruleOf_75 : decode cX6_ruleOf 75 = .ok (.goto 4, 3) := by decide +kernel
theorem dX6_ruleOf_78 : decode cX6_ruleOf 78 = .ok (.iconst (-1), 1) := by decide +kernel
theorem dX6_ruleOf_79 : decode cX6_ruleOf 79 = .ok (.ireturn, 1) := by decide +kernel
set_option maxRecDepth 20000 in
theorem ggX6_enabledAll_X6_ruleOf : GoodIn wsX6_enabledAll wsX6_ruleOf := goodIn_r _ [6, 1, 7, 8, 9, 5, 10, 11, 12, 13, 14, 15, 16, 17, 18, 19, 20, 21, 22, 23, 24, 25, 26, 27, 28, 29, 30, 31, 32, 33, 34, 35, 36, 37, 38, 39, 40, 41, 42, 43, 44, 45, 46, 47, 48, 49, 50, 51, 52, 53, 54, 55, 56, 57, 58, 59, 60, 61, 62, 63, 64, 65, 66, 67, 68, 69, 70, 71, 72, 73, 74, 75, 76, 77, 78, 79, 80, 81, 82, 83, 84, 85, 86, 87, 88, 89, 90, 91] (by decide +kernel) (by decide +kernel)
set_option maxRecDepth 20000 in
theorem gX6_enabledAll_X6_ruleOf : GoodIn wsX6_enabledAll (wsV RX6 97 RX6 yX6_ruleOf wsX6_ruleOf) := goodIn_app (goodIn_of _ (by decide +kernel)) ggX6_enabledAll_X6_ruleOf
theorem dX6_enabledAll_0 : decode cX6_enabledAll 0 = .ok (.iconst 0, 1) := by decide +kernel
theorem dX6_enabledAll_1 : decode cX6_enabledAll 1 = .ok (.istore_n 1, 1) := by decide +kernel
theorem dX6_enabledAll_2 : decode cX6_enabledAll 2 = .ok (.iconst 0, 1) := by decide +kernel
theorem dX6_enabledAll_3 : decode cX6_enabledAll 3 = .ok (.istore_n 2, 1) := by decide +kernel
theorem dX6_enabledAll_4 : decode cX6_enabledAll 4 = .ok (.iload_n 2, 1) := by decide +kernel
theorem dX6_enabledAll_5 : decode cX6_enabledAll 5 = .ok (.aload_n 0, 1) := by decide +kernel
theorem dX6_enabledAll_6 : decode cX6_enabledAll 6 = .ok (.getfield 7, 3) := by decide +kernel
theorem dX6_enabledAll_9 : decode cX6_enabledAll 9 = .ok (.sipush 360, 3) := by decide +kernel
theorem dX6_enabledAll_12 : decode cX6_enabledAll 12 = .ok (.iaload, 1) := by decide +kernel
theorem dX6_enabledAll_13 : decode cX6_enabledAll 13 = .ok (.if_icmp .ge 40, 3) := by decide +kernel
theorem dX6_enabledAll_16 : decode cX6_enabledAll 16 = .ok (.aload_n 0, 1) := by decide +kernel
theorem dX6_enabledAll_17 : decode cX6_enabledAll 17 = .ok (.getfield 7, 3) := by decide +kernel
theorem dX6_enabledAll_20 : decode cX6_enabledAll 20 = .ok (.sipush 361, 3) := by decide +kernel
theorem dX6_enabledAll_23 : decode cX6_enabledAll 23 = .ok (.iaload, 1) := by decide +kernel
theorem dX6_enabledAll_24 : decode cX6_enabledAll 24 = .ok (.iconst 1, 1) := by decide +kernel
theorem dX6_enabledAll_25 : decode cX6_enabledAll 25 = .ok (.if_icmp .ne 28, 3) := by decide +kernel
theorem dX6_enabledAll_28 : decode cX6_enabledAll 28 = .ok (.iload_n 1, 1) := by decide +kernel
theorem dX6_enabledAll_29 : decode cX6_enabledAll 29 = .ok (.aload_n 0, 1) := by decide +kernel
theorem dX6_enabledAll_30 : decode cX6_enabledAll 30 = .ok (.iload_n 2, 1) := by decide +kernel
theorem dX6_enabledAll_31 : decode cX6_enabledAll 31 = .ok (.invokevirtual 97, 3) := by decide +kernel
theorem dX6_enabledAll_34 : decode cX6_enabledAll 34 = .ok (.iconst (-1), 1) := by decide +kernel
theorem dX6_enabledAll_35 : decode cX6_enabledAll 35 = .ok (.if_icmp .ne 7, 3) := by decide +kernel
theorem dX6_enabledAll_38 : decode cX6_enabledAll 38 = .ok (.iconst 0, 1) := by decide +kernel
theorem dX6_enabledAll_39 : decode cX6_enabledAll 39 = .ok (.goto 6, 3) := by decide +kernel
theorem dX6_enabledAll_42 : decode cX6_enabledAll 42 = .ok (.iconst 1, 1) := by decide +kernel
theorem dX6_enabledAll_43 : decode cX6_enabledAll 43 = .ok (.iload_n 2, 1) := by decide +kernel
theorem dX6_enabledAll_44 : decode cX6_enabledAll 44 = .ok (.ishl, 1) := by decide +kernel
theorem dX6_enabledAll_45 : decode cX6_enabledAll 45 = .ok (.ior, 1) := by decide +kernel
theorem dX6_enabledAll_46 : decode cX6_enabledAll 46 = .ok (.istore_n 1, 1) := by decide +kernel
theorem dX6_enabledAll_47 : decode cX6_enabledAll 47 = .ok (.iinc 2 1, 3) := by decide +kernel
theorem dX6_enabledAll_50 : decode cX6_enabledAll 50 = .ok (.goto (-46), 3) := by decide +kernel
theorem dX6_enabledAll_53 : decode cX6_enabledAll 53 = .ok (.iload_n 1, 1) := by decide +kernel
theorem dX6_enabledAll_54 : decode cX6_enabledAll 54 = .ok (.ireturn, 1) := by decide +kernel
set_option maxRecDepth 20000 in
theorem ggX6_beginRound_X6_enabledAll : GoodIn wsX6_beginRound wsX6_enabledAll := goodIn_r _ [6, 1, 7, 8, 9, 5, 10, 11, 12, 13, 14, 15, 16, 17, 18, 19, 20, 21, 22, 23, 24, 25, 26, 27, 28, 29, 30, 31, 32, 33, 34, 35, 36, 37, 38, 39, 40, 41, 42, 43, 44, 45, 46, 47, 48, 49, 50, 51, 52, 53, 54, 55, 56, 57, 58, 59, 60, 61, 62, 63, 64, 65, 66, 67, 68, 69, 70, 71, 72, 73, 74, 75, 76, 77, 78, 79, 80, 81, 82, 83, 84, 85, 86, 87, 88, 89, 90, 91, 92, 93, 94, 95] (by decide +kernel) (by decide +kernel)
set_option maxRecDepth 20000 in
theorem gX6_beginRound_X6_enabledAll : GoodIn wsX6_beginRound (wsV RX6 100 RX6 yX6_enabledAll wsX6_enabledAll) := goodIn_app (goodIn_of _ (by decide +kernel)) ggX6_beginRound_X6_enabledAll
theorem dX6_beginRound_0 : decode cX6_beginRound 0 = .ok (.aload_n 0, 1) := by decide +kernel
theorem dX6_beginRound_1 : decode cX6_beginRound 1 = .ok (.getfield 7, 3) := by decide +kernel
theorem dX6_beginRound_4 : decode cX6_beginRound 4 = .ok (.sipush 373, 3) := by decide +kernel
theorem dX6_beginRound_7 : decode cX6_beginRound 7 = .ok (.aload_n 0, 1) := by decide +kernel
theorem dX6_beginRound_8 : decode cX6_beginRound 8 = .ok (.invokevirtual 100, 3) := by decide +kernel
theorem dX6_beginRound_11 : decode cX6_beginRound 11 = .ok (.iastore, 1) := by decide +kernel
theorem dX6_beginRound_12 : decode cX6_beginRound 12 = .ok (.return_, 1) := by decide +kernel
set_option maxRecDepth 20000 in
theorem ggX6_fault_X6_isNode : GoodIn wsX6_fault wsX6_isNode := goodIn_r _ [6, 1, 7, 8, 5, 9, 102, 103, 104, 105, 106, 107] (by decide +kernel) (by decide +kernel)
set_option maxRecDepth 20000 in
theorem gX6_fault_X6_isNode : GoodIn wsX6_fault (wsV RX6 26 RX6 yX6_isNode wsX6_isNode) := goodIn_app (goodIn_of _ (by decide +kernel)) ggX6_fault_X6_isNode
set_option maxRecDepth 20000 in
theorem ggX6_fault_X6_in : GoodIn wsX6_fault wsX6_in := goodIn_r _ [9] (by decide +kernel) (by decide +kernel)
set_option maxRecDepth 20000 in
theorem gX6_fault_X6_in : GoodIn wsX6_fault (va_wsS RX6 22 yX6_in wsX6_in) := goodIn_app (goodIn_of _ (by decide +kernel)) ggX6_fault_X6_in
set_option maxRecDepth 20000 in
theorem ggX6_fault_X6_neighbourOf : GoodIn wsX6_fault wsX6_neighbourOf := goodIn_r _ [13, 1, 14, 15, 16, 5, 17, 2, 3, 4, 6, 7, 8, 9, 102, 103, 104, 105, 106, 107] (by decide +kernel) (by decide +kernel)
set_option maxRecDepth 20000 in
theorem gX6_fault_X6_neighbourOf : GoodIn wsX6_fault (wsV RX6 103 RX6 yX6_neighbourOf wsX6_neighbourOf) := goodIn_app (goodIn_of _ (by decide +kernel)) ggX6_fault_X6_neighbourOf
set_option maxRecDepth 20000 in
theorem ggX6_fault_X6_placeOf : GoodIn wsX6_fault wsX6_placeOf := goodIn_r _ [21, 10, 11, 12, 5, 13, 1, 14, 15, 16, 17, 2, 3, 4, 6, 7, 8, 9, 102, 103, 104, 105, 106, 107] (by decide +kernel) (by decide +kernel)
set_option maxRecDepth 20000 in
theorem gX6_fault_X6_placeOf : GoodIn wsX6_fault (wsV RX6 106 RX6 yX6_placeOf wsX6_placeOf) := goodIn_app (goodIn_of _ (by decide +kernel)) ggX6_fault_X6_placeOf
set_option maxRecDepth 20000 in
theorem ggX6_fault_X6_beginRound : GoodIn wsX6_fault wsX6_beginRound := goodIn_r _ [25, 1, 26, 27, 28, 5, 29, 30, 31, 32, 33, 34, 35, 36, 37, 7, 8, 9, 38, 39, 40, 41, 14, 15, 16, 17, 2, 3, 4, 6, 42, 43, 44, 45, 46, 47, 48, 49, 50, 51, 52, 53, 54, 55, 56, 57, 58, 59, 60, 61, 62, 63, 64, 65, 66, 67, 68, 69, 70, 71, 72, 73, 74, 75, 76, 77, 78, 79, 80, 81, 82, 83, 84, 85, 86, 87, 88, 89, 90, 91, 92, 93, 94, 95, 96, 97, 98, 99, 100, 101, 102, 103, 104, 105, 106, 107] (by decide +kernel) (by decide +kernel)
set_option maxRecDepth 20000 in
theorem gX6_fault_X6_beginRound : GoodIn wsX6_fault (wsV RX6 37 RX6 yX6_beginRound wsX6_beginRound) := goodIn_app (goodIn_of _ (by decide +kernel)) ggX6_fault_X6_beginRound
theorem dX6_fault_0 : decode cX6_fault 0 = .ok (.aload_n 0, 1) := by decide +kernel
theorem dX6_fault_1 : decode cX6_fault 1 = .ok (.iload_n 1, 1) := by decide +kernel
theorem dX6_fault_2 : decode cX6_fault 2 = .ok (.invokevirtual 26, 3) := by decide +kernel
theorem dX6_fault_5 : decode cX6_fault 5 = .ok (.ifCond .ne 6, 3) := by decide +kernel
theorem dX6_fault_8 : decode cX6_fault 8 = .ok (.bipush (-101), 2) := by decide +kernel
theorem dX6_fault_10 : decode cX6_fault 10 = .ok (.ireturn, 1) := by decide +kernel
theorem dX6_fault_11 : decode cX6_fault 11 = .ok (.iload_n 2, 1) := by decide +kernel
theorem dX6_fault_12 : decode cX6_fault 12 = .ok (.iconst 0, 1) := by decide +kernel
theorem dX6_fault_13 : decode cX6_fault 13 = .ok (.iconst 3, 1) := by decide +kernel
theorem dX6_fault_14 : decode cX6_fault 14 = .ok (.invokestatic 22, 3) := by decide +kernel
theorem dX6_fault_17 : decode cX6_fault 17 = .ok (.ifCond .ne 29, 3) := by decide +kernel
theorem dX6_fault_20 : decode cX6_fault 20 = .ok (.iload_n 2, 1) := by decide +kernel
theorem dX6_fault_21 : decode cX6_fault 21 = .ok (.iconst 4, 1) := by decide +kernel
theorem dX6_fault_22 : decode cX6_fault 22 = .ok (.if_icmp .le 21, 3) := by decide +kernel
theorem dX6_fault_25 : decode cX6_fault 25 = .ok (.iload_n 2, 1) := by decide +kernel
theorem dX6_fault_26 : decode cX6_fault 26 = .ok (.bipush 17, 2) := by decide +kernel
theorem dX6_fault_28 : decode cX6_fault 28 = .ok (.if_icmp .ge 15, 3) := by decide +kernel
theorem dX6_fault_31 : decode cX6_fault 31 = .ok (.aload_n 0, 1) := by decide +kernel
theorem dX6_fault_32 : decode cX6_fault 32 = .ok (.iload_n 1, 1) := by decide +kernel
theorem dX6_fault_33 : decode cX6_fault 33 = .ok (.iload_n 2, 1) := by decide +kernel
theorem dX6_fault_34 : decode cX6_fault 34 = .ok (.iconst 5, 1) := by decide +kernel
theorem dX6_fault_35 : decode cX6_fault 35 = .ok (.isub, 1) := by decide +kernel
theorem dX6_fault_36 : decode cX6_fault 36 = .ok (.invokevirtual 103, 3) := by decide +kernel
theorem dX6_fault_39 : decode cX6_fault 39 = .ok (.iconst (-1), 1) := by decide +kernel
theorem dX6_fault_40 : decode cX6_fault 40 = .ok (.if_icmp .ne 6, 3) := by decide +kernel
theorem dX6_fault_43 : decode cX6_fault 43 = .ok (.bipush (-102), 2) := by decide +kernel
theorem dX6_fault_45 : decode cX6_fault 45 = .ok (.ireturn, 1) := by decide +kernel
theorem dX6_fault_46 : decode cX6_fault 46 = .ok (.aload_n 0, 1) := by decide +kernel
theorem dX6_fault_47 : decode cX6_fault 47 = .ok (.getfield 7, 3) := by decide +kernel
theorem dX6_fault_50 : decode cX6_fault 50 = .ok (.sipush 361, 3) := by decide +kernel
theorem dX6_fault_53 : decode cX6_fault 53 = .ok (.iaload, 1) := by decide +kernel
theorem dX6_fault_54 : decode cX6_fault 54 = .ok (.ifCond .ne 6, 3) := by decide +kernel
theorem dX6_fault_57 : decode cX6_fault 57 = .ok (.bipush (-103), 2) := by decide +kernel
theorem dX6_fault_59 : decode cX6_fault 59 = .ok (.ireturn, 1) := by decide +kernel
theorem dX6_fault_60 : decode cX6_fault 60 = .ok (.aload_n 0, 1) := by decide +kernel
theorem dX6_fault_61 : decode cX6_fault 61 = .ok (.getfield 7, 3) := by decide +kernel
theorem dX6_fault_64 : decode cX6_fault 64 = .ok (.aload_n 0, 1) := by decide +kernel
theorem dX6_fault_65 : decode cX6_fault 65 = .ok (.iload_n 1, 1) := by decide +kernel
theorem dX6_fault_66 : decode cX6_fault 66 = .ok (.iload_n 2, 1) := by decide +kernel
theorem dX6_fault_67 : decode cX6_fault 67 = .ok (.invokevirtual 106, 3) := by decide +kernel
theorem dX6_fault_70 : decode cX6_fault 70 = .ok (.iload_n 3, 1) := by decide +kernel
theorem dX6_fault_71 : decode cX6_fault 71 = .ok (.iastore, 1) := by decide +kernel
theorem dX6_fault_72 : decode cX6_fault 72 = .ok (.aload_n 0, 1) := by decide +kernel
theorem dX6_fault_73 : decode cX6_fault 73 = .ok (.invokevirtual 37, 3) := by decide +kernel
theorem dX6_fault_76 : decode cX6_fault 76 = .ok (.iconst 1, 1) := by decide +kernel
theorem dX6_fault_77 : decode cX6_fault 77 = .ok (.ireturn, 1) := by decide +kernel
set_option maxRecDepth 20000 in
theorem ggX6_placeOf_X6_neighbourOf : GoodIn wsX6_placeOf wsX6_neighbourOf := goodIn_r _ [5, 6, 7, 8, 9, 4, 10, 11, 12, 13, 14, 15, 16, 17, 18, 19, 20, 21, 22, 23] (by decide +kernel) (by decide +kernel)
set_option maxRecDepth 20000 in
theorem gX6_placeOf_X6_neighbourOf : GoodIn wsX6_placeOf (wsV RX6 103 RX6 yX6_neighbourOf wsX6_neighbourOf) := goodIn_app (goodIn_of _ (by decide +kernel)) ggX6_placeOf_X6_neighbourOf
theorem dX6_placeOf_0 : decode cX6_placeOf 0 = .ok (.iload_n 2, 1) := by decide +kernel
theorem dX6_placeOf_1 : decode cX6_placeOf 1 = .ok (.ifCond .ne 10, 3) := by decide +kernel
theorem dX6_placeOf_4 : decode cX6_placeOf 4 = .ok (.bipush 12, 2) := by decide +kernel
theorem dX6_placeOf_6 : decode cX6_placeOf 6 = .ok (.iload_n 1, 1) := by decide +kernel
theorem dX6_placeOf_7 : decode cX6_placeOf 7 = .ok (.iadd, 1) := by decide +kernel
theorem dX6_placeOf_8 : decode cX6_placeOf 8 = .ok (.goto 66, 3) := by decide +kernel
theorem dX6_placeOf_11 : decode cX6_placeOf 11 = .ok (.iload_n 2, 1) := by decide +kernel
theorem dX6_placeOf_12 : decode cX6_placeOf 12 = .ok (.iconst 1, 1) := by decide +kernel
theorem dX6_placeOf_13 : decode cX6_placeOf 13 = .ok (.if_icmp .ne 10, 3) := by decide +kernel
theorem dX6_placeOf_16 : decode cX6_placeOf 16 = .ok (.bipush 24, 2) := by decide +kernel
theorem dX6_placeOf_18 : decode cX6_placeOf 18 = .ok (.iload_n 1, 1) := by decide +kernel
theorem dX6_placeOf_19 : decode cX6_placeOf 19 = .ok (.iadd, 1) := by decide +kernel
theorem dX6_placeOf_20 : decode cX6_placeOf 20 = .ok (.goto 54, 3) := by decide +kernel
theorem dX6_placeOf_23 : decode cX6_placeOf 23 = .ok (.iload_n 2, 1) := by decide +kernel
theorem dX6_placeOf_24 : decode cX6_placeOf 24 = .ok (.iconst 2, 1) := by decide +kernel
theorem dX6_placeOf_25 : decode cX6_placeOf 25 = .ok (.if_icmp .ne 10, 3) := by decide +kernel
theorem dX6_placeOf_28 : decode cX6_placeOf 28 = .ok (.bipush 36, 2) := by decide +kernel
theorem dX6_placeOf_30 : decode cX6_placeOf 30 = .ok (.iload_n 1, 1) := by decide +kernel
theorem dX6_placeOf_31 : decode cX6_placeOf 31 = .ok (.iadd, 1) := by decide +kernel
theorem dX6_placeOf_32 : decode cX6_placeOf 32 = .ok (.goto 42, 3) := by decide +kernel
theorem dX6_placeOf_35 : decode cX6_placeOf 35 = .ok (.iload_n 2, 1) := by decide +kernel
theorem dX6_placeOf_36 : decode cX6_placeOf 36 = .ok (.iconst 3, 1) := by decide +kernel
theorem dX6_placeOf_37 : decode cX6_placeOf 37 = .ok (.if_icmp .ne 10, 3) := by decide +kernel
theorem dX6_placeOf_40 : decode cX6_placeOf 40 = .ok (.bipush 48, 2) := by decide +kernel
theorem dX6_placeOf_42 : decode cX6_placeOf 42 = .ok (.iload_n 1, 1) := by decide +kernel
theorem dX6_placeOf_43 : decode cX6_placeOf 43 = .ok (.iadd, 1) := by decide +kernel
theorem dX6_placeOf_44 : decode cX6_placeOf 44 = .ok (.goto 30, 3) := by decide +kernel
theorem dX6_placeOf_47 : decode cX6_placeOf 47 = .ok (.iload_n 2, 1) := by decide +kernel
theorem dX6_placeOf_48 : decode cX6_placeOf 48 = .ok (.iconst 4, 1) := by decide +kernel
theorem dX6_placeOf_49 : decode cX6_placeOf 49 = .ok (.if_icmp .ne 9, 3) := by decide +kernel
theorem dX6_placeOf_52 : decode cX6_placeOf 52 = .ok (.iconst 0, 1) := by decide +kernel
theorem dX6_placeOf_53 : decode cX6_placeOf 53 = .ok (.iload_n 1, 1) := by decide +kernel
theorem dX6_placeOf_54 : decode cX6_placeOf 54 = .ok (.iadd, 1) := by decide +kernel
theorem dX6_placeOf_55 : decode cX6_placeOf 55 = .ok (.goto 19, 3) := by decide +kernel
theorem dX6_placeOf_58 : decode cX6_placeOf 58 = .ok (.bipush 72, 2) := by decide +kernel
theorem dX6_placeOf_60 : decode cX6_placeOf 60 = .ok (.bipush 12, 2) := by decide +kernel
theorem dX6_placeOf_62 : decode cX6_placeOf 62 = .ok (.iload_n 1, 1) := by decide +kernel
theorem dX6_placeOf_63 : decode cX6_placeOf 63 = .ok (.imul, 1) := by decide +kernel
theorem dX6_placeOf_64 : decode cX6_placeOf 64 = .ok (.iadd, 1) := by decide +kernel
theorem dX6_placeOf_65 : decode cX6_placeOf 65 = .ok (.aload_n 0, 1) := by decide +kernel
theorem dX6_placeOf_66 : decode cX6_placeOf 66 = .ok (.iload_n 1, 1) := by decide +kernel
theorem dX6_placeOf_67 : decode cX6_placeOf 67 = .ok (.iload_n 2, 1) := by decide +kernel
theorem dX6_placeOf_68 : decode cX6_placeOf 68 = .ok (.iconst 5, 1) := by decide +kernel
theorem dX6_placeOf_69 : decode cX6_placeOf 69 = .ok (.isub, 1) := by decide +kernel
theorem dX6_placeOf_70 : decode cX6_placeOf 70 = .ok (.invokevirtual 103, 3) := by decide +kernel
theorem dX6_placeOf_73 : decode cX6_placeOf 73 = .ok (.iadd, 1) := by decide +kernel
theorem dX6_placeOf_74 : decode cX6_placeOf 74 = .ok (.ireturn, 1) := by decide +kernel
set_option maxRecDepth 20000 in
theorem ggX6_told_X6_isNode : GoodIn wsX6_told wsX6_isNode := goodIn_r _ [6, 1, 7, 8, 5, 9, 22, 23, 24, 25, 26, 27] (by decide +kernel) (by decide +kernel)
set_option maxRecDepth 20000 in
theorem gX6_told_X6_isNode : GoodIn wsX6_told (wsV RX6 26 RX6 yX6_isNode wsX6_isNode) := goodIn_app (goodIn_of _ (by decide +kernel)) ggX6_told_X6_isNode
set_option maxRecDepth 20000 in
theorem ggX6_told_X6_in : GoodIn wsX6_told wsX6_in := goodIn_r _ [9] (by decide +kernel) (by decide +kernel)
set_option maxRecDepth 20000 in
theorem gX6_told_X6_in : GoodIn wsX6_told (va_wsS RX6 22 yX6_in wsX6_in) := goodIn_app (goodIn_of _ (by decide +kernel)) ggX6_told_X6_in
set_option maxRecDepth 20000 in
theorem ggX6_told_X6_neighbourOf : GoodIn wsX6_told wsX6_neighbourOf := goodIn_r _ [13, 1, 14, 15, 16, 5, 17, 2, 3, 4, 6, 7, 8, 9, 22, 23, 24, 25, 26, 27] (by decide +kernel) (by decide +kernel)
set_option maxRecDepth 20000 in
theorem gX6_told_X6_neighbourOf : GoodIn wsX6_told (wsV RX6 103 RX6 yX6_neighbourOf wsX6_neighbourOf) := goodIn_app (goodIn_of _ (by decide +kernel)) ggX6_told_X6_neighbourOf
set_option maxRecDepth 20000 in
theorem ggX6_told_X6_placeOf : GoodIn wsX6_told wsX6_placeOf := goodIn_r _ [21, 10, 11, 12, 5, 13, 1, 14, 15, 16, 17, 2, 3, 4, 6, 7, 8, 9, 22, 23, 24, 25, 26, 27] (by decide +kernel) (by decide +kernel)
set_option maxRecDepth 20000 in
theorem gX6_told_X6_placeOf : GoodIn wsX6_told (wsV RX6 106 RX6 yX6_placeOf wsX6_placeOf) := goodIn_app (goodIn_of _ (by decide +kernel)) ggX6_told_X6_placeOf
theorem dX6_told_0 : decode cX6_told 0 = .ok (.aload_n 0, 1) := by decide +kernel
theorem dX6_told_1 : decode cX6_told 1 = .ok (.iload_n 1, 1) := by decide +kernel
theorem dX6_told_2 : decode cX6_told 2 = .ok (.invokevirtual 26, 3) := by decide +kernel
theorem dX6_told_5 : decode cX6_told 5 = .ok (.ifCond .ne 6, 3) := by decide +kernel
theorem dX6_told_8 : decode cX6_told 8 = .ok (.bipush (-101), 2) := by decide +kernel
theorem dX6_told_10 : decode cX6_told 10 = .ok (.ireturn, 1) := by decide +kernel
theorem dX6_told_11 : decode cX6_told 11 = .ok (.iload_n 2, 1) := by decide +kernel
theorem dX6_told_12 : decode cX6_told 12 = .ok (.iconst 0, 1) := by decide +kernel
theorem dX6_told_13 : decode cX6_told 13 = .ok (.iconst 4, 1) := by decide +kernel
theorem dX6_told_14 : decode cX6_told 14 = .ok (.invokestatic 22, 3) := by decide +kernel
theorem dX6_told_17 : decode cX6_told 17 = .ok (.ifCond .ne 29, 3) := by decide +kernel
theorem dX6_told_20 : decode cX6_told 20 = .ok (.iload_n 2, 1) := by decide +kernel
theorem dX6_told_21 : decode cX6_told 21 = .ok (.iconst 4, 1) := by decide +kernel
theorem dX6_told_22 : decode cX6_told 22 = .ok (.if_icmp .le 21, 3) := by decide +kernel
theorem dX6_told_25 : decode cX6_told 25 = .ok (.iload_n 2, 1) := by decide +kernel
theorem dX6_told_26 : decode cX6_told 26 = .ok (.bipush 17, 2) := by decide +kernel
theorem dX6_told_28 : decode cX6_told 28 = .ok (.if_icmp .ge 15, 3) := by decide +kernel
theorem dX6_told_31 : decode cX6_told 31 = .ok (.aload_n 0, 1) := by decide +kernel
theorem dX6_told_32 : decode cX6_told 32 = .ok (.iload_n 1, 1) := by decide +kernel
theorem dX6_told_33 : decode cX6_told 33 = .ok (.iload_n 2, 1) := by decide +kernel
theorem dX6_told_34 : decode cX6_told 34 = .ok (.iconst 5, 1) := by decide +kernel
theorem dX6_told_35 : decode cX6_told 35 = .ok (.isub, 1) := by decide +kernel
theorem dX6_told_36 : decode cX6_told 36 = .ok (.invokevirtual 103, 3) := by decide +kernel
theorem dX6_told_39 : decode cX6_told 39 = .ok (.iconst (-1), 1) := by decide +kernel
theorem dX6_told_40 : decode cX6_told 40 = .ok (.if_icmp .ne 6, 3) := by decide +kernel
theorem dX6_told_43 : decode cX6_told 43 = .ok (.bipush (-102), 2) := by decide +kernel
theorem dX6_told_45 : decode cX6_told 45 = .ok (.ireturn, 1) := by decide +kernel
theorem dX6_told_46 : decode cX6_told 46 = .ok (.iload_n 2, 1) := by decide +kernel
theorem dX6_told_47 : decode cX6_told 47 = .ok (.iconst 4, 1) := by decide +kernel
theorem dX6_told_48 : decode cX6_told 48 = .ok (.if_icmp .le 17, 3) := by decide +kernel
theorem dX6_told_51 : decode cX6_told 51 = .ok (.aload_n 0, 1) := by decide +kernel
theorem dX6_told_52 : decode cX6_told 52 = .ok (.getfield 7, 3) := by decide +kernel
theorem dX6_told_55 : decode cX6_told 55 = .ok (.sipush 361, 3) := by decide +kernel
theorem dX6_told_58 : decode cX6_told 58 = .ok (.iaload, 1) := by decide +kernel
theorem dX6_told_59 : decode cX6_told 59 = .ok (.ifCond .ne 6, 3) := by decide +kernel
theorem dX6_told_62 : decode cX6_told 62 = .ok (.bipush (-103), 2) := by decide +kernel
theorem dX6_told_64 : decode cX6_told 64 = .ok (.ireturn, 1) := by decide +kernel
theorem dX6_told_65 : decode cX6_told 65 = .ok (.aload_n 0, 1) := by decide +kernel
theorem dX6_told_66 : decode cX6_told 66 = .ok (.getfield 7, 3) := by decide +kernel
theorem dX6_told_69 : decode cX6_told 69 = .ok (.sipush 371, 3) := by decide +kernel
theorem dX6_told_72 : decode cX6_told 72 = .ok (.aload_n 0, 1) := by decide +kernel
theorem dX6_told_73 : decode cX6_told 73 = .ok (.getfield 7, 3) := by decide +kernel
theorem dX6_told_76 : decode cX6_told 76 = .ok (.aload_n 0, 1) := by decide +kernel
theorem dX6_told_77 : decode cX6_told 77 = .ok (.iload_n 1, 1) := by decide +kernel
theorem dX6_told_78 : decode cX6_told 78 = .ok (.iload_n 2, 1) := by decide +kernel
theorem dX6_told_79 : decode cX6_told 79 = .ok (.invokevirtual 106, 3) := by decide +kernel
theorem dX6_told_82 : decode cX6_told 82 = .ok (.iaload, 1) := by decide +kernel
theorem dX6_told_83 : decode cX6_told 83 = .ok (.iastore, 1) := by decide +kernel
theorem dX6_told_84 : decode cX6_told 84 = .ok (.iconst 1, 1) := by decide +kernel
theorem dX6_told_85 : decode cX6_told 85 = .ok (.ireturn, 1) := by decide +kernel
theorem dX6_seen_0 : decode cX6_seen 0 = .ok (.aload_n 0, 1) := by decide +kernel
theorem dX6_seen_1 : decode cX6_seen 1 = .ok (.getfield 7, 3) := by decide +kernel
theorem dX6_seen_4 : decode cX6_seen 4 = .ok (.sipush 371, 3) := by decide +kernel
