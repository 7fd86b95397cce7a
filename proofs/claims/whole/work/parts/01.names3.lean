theorem dX6_seen_7 : decode cX6_seen 7 = .ok (.iaload, 1) := by decide +kernel
theorem dX6_seen_8 : decode cX6_seen 8 = .ok (.ireturn, 1) := by decide +kernel
set_option maxRecDepth 20000 in
theorem ggX6_neighbour_X6_isNode : GoodIn wsX6_neighbour wsX6_isNode := goodIn_r _ [5, 6, 7, 8, 4, 9, 18, 19, 20, 21, 22, 23] (by decide +kernel) (by decide +kernel)
set_option maxRecDepth 20000 in
theorem gX6_neighbour_X6_isNode : GoodIn wsX6_neighbour (wsV RX6 26 RX6 yX6_isNode wsX6_isNode) := goodIn_app (goodIn_of _ (by decide +kernel)) ggX6_neighbour_X6_isNode
set_option maxRecDepth 20000 in
theorem ggX6_neighbour_X6_neighbourOf : GoodIn wsX6_neighbour wsX6_neighbourOf := goodIn_r _ [13, 6, 14, 15, 16, 4, 17, 1, 2, 3, 5, 7, 8, 9, 18, 19, 20, 21, 22, 23] (by decide +kernel) (by decide +kernel)
set_option maxRecDepth 20000 in
theorem gX6_neighbour_X6_neighbourOf : GoodIn wsX6_neighbour (wsV RX6 103 RX6 yX6_neighbourOf wsX6_neighbourOf) := goodIn_app (goodIn_of _ (by decide +kernel)) ggX6_neighbour_X6_neighbourOf
theorem dX6_neighbour_0 : decode cX6_neighbour 0 = .ok (.aload_n 0, 1) := by decide +kernel
theorem dX6_neighbour_1 : decode cX6_neighbour 1 = .ok (.iload_n 1, 1) := by decide +kernel
theorem dX6_neighbour_2 : decode cX6_neighbour 2 = .ok (.invokevirtual 26, 3) := by decide +kernel
theorem dX6_neighbour_5 : decode cX6_neighbour 5 = .ok (.ifCond .eq 12, 3) := by decide +kernel
theorem dX6_neighbour_8 : decode cX6_neighbour 8 = .ok (.aload_n 0, 1) := by decide +kernel
theorem dX6_neighbour_9 : decode cX6_neighbour 9 = .ok (.iload_n 1, 1) := by decide +kernel
theorem dX6_neighbour_10 : decode cX6_neighbour 10 = .ok (.iload_n 2, 1) := by decide +kernel
theorem dX6_neighbour_11 : decode cX6_neighbour 11 = .ok (.invokevirtual 103, 3) := by decide +kernel
theorem dX6_neighbour_14 : decode cX6_neighbour 14 = .ok (.goto 5, 3) := by decide +kernel
theorem dX6_neighbour_17 : decode cX6_neighbour 17 = .ok (.bipush (-101), 2) := by decide +kernel
theorem dX6_neighbour_19 : decode cX6_neighbour 19 = .ok (.ireturn, 1) := by decide +kernel
set_option maxRecDepth 20000 in
theorem ggX6_child_X6_isNode : GoodIn wsX6_child wsX6_isNode := goodIn_r _ [6, 1, 7, 8, 5, 9, 26, 27, 28, 29, 30, 31] (by decide +kernel) (by decide +kernel)
set_option maxRecDepth 20000 in
theorem gX6_child_X6_isNode : GoodIn wsX6_child (wsV RX6 26 RX6 yX6_isNode wsX6_isNode) := goodIn_app (goodIn_of _ (by decide +kernel)) ggX6_child_X6_isNode
set_option maxRecDepth 20000 in
theorem ggX6_child_X6_isChild : GoodIn wsX6_child wsX6_isChild := goodIn_r _ [13, 14, 15, 16, 5, 17, 1, 2, 3, 4, 6, 7, 8, 9, 18, 19, 20, 21, 22, 23, 24, 25, 26, 27, 28, 29, 30, 31] (by decide +kernel) (by decide +kernel)
set_option maxRecDepth 20000 in
theorem gX6_child_X6_isChild : GoodIn wsX6_child (wsV RX6 54 RX6 yX6_isChild wsX6_isChild) := goodIn_app (goodIn_of _ (by decide +kernel)) ggX6_child_X6_isChild
theorem dX6_child_0 : decode cX6_child 0 = .ok (.aload_n 0, 1) := by decide +kernel
theorem dX6_child_1 : decode cX6_child 1 = .ok (.iload_n 1, 1) := by decide +kernel
theorem dX6_child_2 : decode cX6_child 2 = .ok (.invokevirtual 26, 3) := by decide +kernel
theorem dX6_child_5 : decode cX6_child 5 = .ok (.ifCond .ne 6, 3) := by decide +kernel
theorem dX6_child_8 : decode cX6_child 8 = .ok (.bipush (-101), 2) := by decide +kernel
theorem dX6_child_10 : decode cX6_child 10 = .ok (.ireturn, 1) := by decide +kernel
theorem dX6_child_11 : decode cX6_child 11 = .ok (.iconst 0, 1) := by decide +kernel
theorem dX6_child_12 : decode cX6_child 12 = .ok (.istore_n 3, 1) := by decide +kernel
theorem dX6_child_13 : decode cX6_child 13 = .ok (.iconst 0, 1) := by decide +kernel
theorem dX6_child_14 : decode cX6_child 14 = .ok (.istore 4, 2) := by decide +kernel
theorem dX6_child_16 : decode cX6_child 16 = .ok (.iload 4, 2) := by decide +kernel
theorem dX6_child_18 : decode cX6_child 18 = .ok (.aload_n 0, 1) := by decide +kernel
theorem dX6_child_19 : decode cX6_child 19 = .ok (.getfield 7, 3) := by decide +kernel
theorem dX6_child_22 : decode cX6_child 22 = .ok (.sipush 360, 3) := by decide +kernel
theorem dX6_child_25 : decode cX6_child 25 = .ok (.iaload, 1) := by decide +kernel
theorem dX6_child_26 : decode cX6_child 26 = .ok (.if_icmp .ge 30, 3) := by decide +kernel
theorem dX6_child_29 : decode cX6_child 29 = .ok (.aload_n 0, 1) := by decide +kernel
theorem dX6_child_30 : decode cX6_child 30 = .ok (.iload_n 1, 1) := by decide +kernel
theorem dX6_child_31 : decode cX6_child 31 = .ok (.iload 4, 2) := by decide +kernel
theorem dX6_child_33 : decode cX6_child 33 = .ok (.invokevirtual 54, 3) := by decide +kernel
theorem dX6_child_36 : decode cX6_child 36 = .ok (.ifCond .eq 14, 3) := by decide +kernel
theorem dX6_child_39 : decode cX6_child 39 = .ok (.iload_n 3, 1) := by decide +kernel
theorem dX6_child_40 : decode cX6_child 40 = .ok (.iload_n 2, 1) := by decide +kernel
theorem dX6_child_41 : decode cX6_child 41 = .ok (.if_icmp .ne 6, 3) := by decide +kernel
theorem dX6_child_44 : decode cX6_child 44 = .ok (.iload 4, 2) := by decide +kernel
theorem dX6_child_46 : decode cX6_child 46 = .ok (.ireturn, 1) := by decide +kernel
theorem dX6_child_47 : decode cX6_child 47 = .ok (.iinc 3 1, 3) := by decide +kernel
theorem dX6_child_50 : decode cX6_child 50 = .ok (.iinc 4 1, 3) := by decide +kernel
theorem dX6_child_53 : decode cX6_child 53 = .ok (.goto (-37), 3) := by decide +kernel
theorem dX6_child_56 : decode cX6_child 56 = .ok (.iconst (-1), 1) := by decide +kernel
theorem dX6_child_57 : decode cX6_child 57 = .ok (.ireturn, 1) := by decide +kernel
set_option maxRecDepth 20000 in
theorem ggX6_enabled_X6_isNode : GoodIn wsX6_enabled wsX6_isNode := goodIn_r _ [6, 1, 7, 8, 5, 9, 86, 87, 88, 89, 90, 91] (by decide +kernel) (by decide +kernel)
set_option maxRecDepth 20000 in
theorem gX6_enabled_X6_isNode : GoodIn wsX6_enabled (wsV RX6 26 RX6 yX6_isNode wsX6_isNode) := goodIn_app (goodIn_of _ (by decide +kernel)) ggX6_enabled_X6_isNode
set_option maxRecDepth 20000 in
theorem ggX6_enabled_X6_ruleOf : GoodIn wsX6_enabled wsX6_ruleOf := goodIn_r _ [13, 1, 14, 15, 16, 5, 17, 7, 8, 9, 18, 19, 20, 21, 22, 23, 24, 25, 2, 3, 4, 6, 26, 27, 28, 29, 30, 31, 32, 33, 34, 35, 36, 37, 38, 39, 40, 41, 42, 43, 44, 45, 46, 47, 48, 49, 50, 51, 52, 53, 54, 55, 56, 57, 58, 59, 60, 61, 62, 63, 64, 65, 66, 67, 68, 69, 70, 71, 72, 73, 74, 75, 76, 77, 78, 79, 80, 81, 82, 83, 84, 85, 86, 87, 88, 89, 90, 91] (by decide +kernel) (by decide +kernel)
set_option maxRecDepth 20000 in
theorem gX6_enabled_X6_ruleOf : GoodIn wsX6_enabled (wsV RX6 97 RX6 yX6_ruleOf wsX6_ruleOf) := goodIn_app (goodIn_of _ (by decide +kernel)) ggX6_enabled_X6_ruleOf
theorem dX6_enabled_0 : decode cX6_enabled 0 = .ok (.aload_n 0, 1) := by decide +kernel
theorem dX6_enabled_1 : decode cX6_enabled 1 = .ok (.iload_n 1, 1) := by decide +kernel
theorem dX6_enabled_2 : decode cX6_enabled 2 = .ok (.invokevirtual 26, 3) := by decide +kernel
theorem dX6_enabled_5 : decode cX6_enabled 5 = .ok (.ifCond .ne 6, 3) := by decide +kernel
theorem dX6_enabled_8 : decode cX6_enabled 8 = .ok (.bipush (-101), 2) := by decide +kernel
theorem dX6_enabled_10 : decode cX6_enabled 10 = .ok (.ireturn, 1) := by decide +kernel
theorem dX6_enabled_11 : decode cX6_enabled 11 = .ok (.aload_n 0, 1) := by decide +kernel
theorem dX6_enabled_12 : decode cX6_enabled 12 = .ok (.getfield 7, 3) := by decide +kernel
theorem dX6_enabled_15 : decode cX6_enabled 15 = .ok (.sipush 361, 3) := by decide +kernel
theorem dX6_enabled_18 : decode cX6_enabled 18 = .ok (.iaload, 1) := by decide +kernel
theorem dX6_enabled_19 : decode cX6_enabled 19 = .ok (.iconst 1, 1) := by decide +kernel
theorem dX6_enabled_20 : decode cX6_enabled 20 = .ok (.if_icmp .ne 11, 3) := by decide +kernel
theorem dX6_enabled_23 : decode cX6_enabled 23 = .ok (.aload_n 0, 1) := by decide +kernel
theorem dX6_enabled_24 : decode cX6_enabled 24 = .ok (.iload_n 1, 1) := by decide +kernel
theorem dX6_enabled_25 : decode cX6_enabled 25 = .ok (.invokevirtual 97, 3) := by decide +kernel
theorem dX6_enabled_28 : decode cX6_enabled 28 = .ok (.goto 5, 3) := by decide +kernel
theorem dX6_enabled_31 : decode cX6_enabled 31 = .ok (.bipush (-103), 2) := by decide +kernel
theorem dX6_enabled_33 : decode cX6_enabled 33 = .ok (.ireturn, 1) := by decide +kernel
set_option maxRecDepth 20000 in
theorem ggX6_rights_X6_isTie : GoodIn wsX6_rights wsX6_isTie := goodIn_r _ [6, 7, 8, 9, 5, 10, 11, 12, 13, 14, 1, 15, 16, 17, 18, 19, 20, 21, 22, 23, 24, 25, 26, 27, 28, 29, 50, 51, 52, 53, 54, 55] (by decide +kernel) (by decide +kernel)
set_option maxRecDepth 20000 in
theorem gX6_rights_X6_isTie : GoodIn wsX6_rights (wsV RX6 57 RX6 yX6_isTie wsX6_isTie) := goodIn_app (goodIn_of _ (by decide +kernel)) ggX6_rights_X6_isTie
set_option maxRecDepth 20000 in
theorem ggX6_rights_X6_hasRight : GoodIn wsX6_rights wsX6_hasRight := goodIn_r _ [33, 34, 35, 36, 5, 37, 1, 38, 39, 40, 41, 19, 20, 21, 42, 43, 44, 45, 2, 3, 4, 6, 7, 8, 9, 10, 11, 12, 13, 14, 15, 16, 17, 18, 22, 23, 24, 25, 26, 27, 28, 29, 46, 47, 48, 49, 50, 51, 52, 53, 54, 55] (by decide +kernel) (by decide +kernel)
set_option maxRecDepth 20000 in
theorem gX6_rights_X6_hasRight : GoodIn wsX6_rights (wsV RX6 82 RX6 yX6_hasRight wsX6_hasRight) := goodIn_app (goodIn_of _ (by decide +kernel)) ggX6_rights_X6_hasRight
theorem dX6_rights_0 : decode cX6_rights 0 = .ok (.iconst 0, 1) := by decide +kernel
theorem dX6_rights_1 : decode cX6_rights 1 = .ok (.istore_n 1, 1) := by decide +kernel
theorem dX6_rights_2 : decode cX6_rights 2 = .ok (.iconst 0, 1) := by decide +kernel
theorem dX6_rights_3 : decode cX6_rights 3 = .ok (.istore_n 2, 1) := by decide +kernel
theorem dX6_rights_4 : decode cX6_rights 4 = .ok (.iload_n 2, 1) := by decide +kernel
theorem dX6_rights_5 : decode cX6_rights 5 = .ok (.aload_n 0, 1) := by decide +kernel
theorem dX6_rights_6 : decode cX6_rights 6 = .ok (.getfield 7, 3) := by decide +kernel
theorem dX6_rights_9 : decode cX6_rights 9 = .ok (.sipush 360, 3) := by decide +kernel
theorem dX6_rights_12 : decode cX6_rights 12 = .ok (.iaload, 1) := by decide +kernel
theorem dX6_rights_13 : decode cX6_rights 13 = .ok (.if_icmp .ge 67, 3) := by decide +kernel
theorem dX6_rights_16 : decode cX6_rights 16 = .ok (.aload_n 0, 1) := by decide +kernel
theorem dX6_rights_17 : decode cX6_rights 17 = .ok (.getfield 7, 3) := by decide +kernel
theorem dX6_rights_20 : decode cX6_rights 20 = .ok (.sipush 361, 3) := by decide +kernel
theorem dX6_rights_23 : decode cX6_rights 23 = .ok (.iaload, 1) := by decide +kernel
theorem dX6_rights_24 : decode cX6_rights 24 = .ok (.iconst 1, 1) := by decide +kernel
theorem dX6_rights_25 : decode cX6_rights 25 = .ok (.if_icmp .ne 55, 3) := by decide +kernel
theorem dX6_rights_28 : decode cX6_rights 28 = .ok (.iconst 0, 1) := by decide +kernel
theorem dX6_rights_29 : decode cX6_rights 29 = .ok (.istore_n 3, 1) := by decide +kernel
theorem dX6_rights_30 : decode cX6_rights 30 = .ok (.iload_n 3, 1) := by decide +kernel
theorem dX6_rights_31 : decode cX6_rights 31 = .ok (.aload_n 0, 1) := by decide +kernel
theorem dX6_rights_32 : decode cX6_rights 32 = .ok (.getfield 7, 3) := by decide +kernel
theorem dX6_rights_35 : decode cX6_rights 35 = .ok (.sipush 360, 3) := by decide +kernel
theorem dX6_rights_38 : decode cX6_rights 38 = .ok (.iaload, 1) := by decide +kernel
theorem dX6_rights_39 : decode cX6_rights 39 = .ok (.if_icmp .ge 35, 3) := by decide +kernel
theorem dX6_rights_42 : decode cX6_rights 42 = .ok (.iload_n 1, 1) := by decide +kernel
theorem dX6_rights_43 : decode cX6_rights 43 = .ok (.aload_n 0, 1) := by decide +kernel
theorem dX6_rights_44 : decode cX6_rights 44 = .ok (.iload_n 2, 1) := by decide +kernel
theorem dX6_rights_45 : decode cX6_rights 45 = .ok (.iload_n 3, 1) := by decide +kernel
theorem dX6_rights_46 : decode cX6_rights 46 = .ok (.invokevirtual 57, 3) := by decide +kernel
theorem dX6_rights_49 : decode cX6_rights 49 = .ok (.ifCond .eq 16, 3) := by decide +kernel
theorem dX6_rights_52 : decode cX6_rights 52 = .ok (.aload_n 0, 1) := by decide +kernel
theorem dX6_rights_53 : decode cX6_rights 53 = .ok (.iload_n 2, 1) := by decide +kernel
theorem dX6_rights_54 : decode cX6_rights 54 = .ok (.iload_n 3, 1) := by decide +kernel
theorem dX6_rights_55 : decode cX6_rights 55 = .ok (.invokevirtual 82, 3) := by decide +kernel
theorem dX6_rights_58 : decode cX6_rights 58 = .ok (.ifCond .eq 7, 3) := by decide +kernel
theorem dX6_rights_61 : decode cX6_rights 61 = .ok (.iconst 1, 1) := by decide +kernel
theorem dX6_rights_62 : decode cX6_rights 62 = .ok (.goto 4, 3) := by decide +kernel
theorem dX6_rights_65 : decode cX6_rights 65 = .ok (.iconst 0, 1) := by decide +kernel
theorem dX6_rights_66 : decode cX6_rights 66 = .ok (.iadd, 1) := by decide +kernel
theorem dX6_rights_67 : decode cX6_rights 67 = .ok (.istore_n 1, 1) := by decide +kernel
theorem dX6_rights_68 : decode cX6_rights 68 = .ok (.iinc 3 1, 3) := by decide +kernel
theorem dX6_rights_71 : decode cX6_rights 71 = .ok (.goto (-41), 3) := by decide +kernel
theorem dX6_rights_74 : decode cX6_rights 74 = .ok (.iinc 2 1, 3) := by decide +kernel
theorem dX6_rights_77 : decode cX6_rights 77 = .ok (.goto (-73), 3) := by decide +kernel
theorem dX6_rights_80 : decode cX6_rights 80 = .ok (.iload_n 1, 1) := by decide +kernel
theorem dX6_rights_81 : decode cX6_rights 81 = .ok (.ireturn, 1) := by decide +kernel
set_option maxRecDepth 20000 in
theorem ggX6_holder_X6_isTie : GoodIn wsX6_holder wsX6_isTie := goodIn_r _ [6, 7, 8, 9, 5, 10, 11, 12, 13, 14, 1, 15, 16, 17, 18, 19, 20, 21, 22, 23, 24, 25, 26, 27, 28, 29, 50, 51, 52, 53, 54, 55] (by decide +kernel) (by decide +kernel)
set_option maxRecDepth 20000 in
theorem gX6_holder_X6_isTie : GoodIn wsX6_holder (wsV RX6 57 RX6 yX6_isTie wsX6_isTie) := goodIn_app (goodIn_of _ (by decide +kernel)) ggX6_holder_X6_isTie
set_option maxRecDepth 20000 in
theorem ggX6_holder_X6_hasRight : GoodIn wsX6_holder wsX6_hasRight := goodIn_r _ [33, 34, 35, 36, 5, 37, 1, 38, 39, 40, 41, 19, 20, 21, 42, 43, 44, 45, 2, 3, 4, 6, 7, 8, 9, 10, 11, 12, 13, 14, 15, 16, 17, 18, 22, 23, 24, 25, 26, 27, 28, 29, 46, 47, 48, 49, 50, 51, 52, 53, 54, 55] (by decide +kernel) (by decide +kernel)
set_option maxRecDepth 20000 in
theorem gX6_holder_X6_hasRight : GoodIn wsX6_holder (wsV RX6 82 RX6 yX6_hasRight wsX6_hasRight) := goodIn_app (goodIn_of _ (by decide +kernel)) ggX6_holder_X6_hasRight
theorem dX6_holder_0 : decode cX6_holder 0 = .ok (.iconst 0, 1) := by decide +kernel
theorem dX6_holder_1 : decode cX6_holder 1 = .ok (.istore_n 2, 1) := by decide +kernel
theorem dX6_holder_2 : decode cX6_holder 2 = .ok (.iconst 0, 1) := by decide +kernel
theorem dX6_holder_3 : decode cX6_holder 3 = .ok (.istore_n 3, 1) := by decide +kernel
theorem dX6_holder_4 : decode cX6_holder 4 = .ok (.iload_n 3, 1) := by decide +kernel
theorem dX6_holder_5 : decode cX6_holder 5 = .ok (.aload_n 0, 1) := by decide +kernel
theorem dX6_holder_6 : decode cX6_holder 6 = .ok (.getfield 7, 3) := by decide +kernel
theorem dX6_holder_9 : decode cX6_holder 9 = .ok (.sipush 360, 3) := by decide +kernel
theorem dX6_holder_12 : decode cX6_holder 12 = .ok (.iaload, 1) := by decide +kernel
theorem dX6_holder_13 : decode cX6_holder 13 = .ok (.if_icmp .ge 73, 3) := by decide +kernel
theorem dX6_holder_16 : decode cX6_holder 16 = .ok (.aload_n 0, 1) := by decide +kernel
theorem dX6_holder_17 : decode cX6_holder 17 = .ok (.getfield 7, 3) := by decide +kernel
theorem dX6_holder_20 : decode cX6_holder 20 = .ok (.sipush 361, 3) := by decide +kernel
theorem dX6_holder_23 : decode cX6_holder 23 = .ok (.iaload, 1) := by decide +kernel
theorem dX6_holder_24 : decode cX6_holder 24 = .ok (.iconst 1, 1) := by decide +kernel
theorem dX6_holder_25 : decode cX6_holder 25 = .ok (.if_icmp .ne 61, 3) := by decide +kernel
theorem dX6_holder_28 : decode cX6_holder 28 = .ok (.iconst 0, 1) := by decide +kernel
theorem dX6_holder_29 : decode cX6_holder 29 = .ok (.istore 4, 2) := by decide +kernel
theorem dX6_holder_31 : decode cX6_holder 31 = .ok (.iload 4, 2) := by decide +kernel
theorem dX6_holder_33 : decode cX6_holder 33 = .ok (.aload_n 0, 1) := by decide +kernel
theorem dX6_holder_34 : decode cX6_holder 34 = .ok (.getfield 7, 3) := by decide +kernel
theorem dX6_holder_37 : decode cX6_holder 37 = .ok (.sipush 360, 3) := by decide +kernel
theorem dX6_holder_40 : decode cX6_holder 40 = .ok (.iaload, 1) := by decide +kernel
theorem dX6_holder_41 : decode cX6_holder 41 = .ok (.if_icmp .ge 39, 3) := by decide +kernel
theorem dX6_holder_44 : decode cX6_holder 44 = .ok (.aload_n 0, 1) := by decide +kernel
theorem dX6_holder_45 : decode cX6_holder 45 = .ok (.iload_n 3, 1) := by decide +kernel
theorem dX6_holder_46 : decode cX6_holder 46 = .ok (.iload 4, 2) := by decide +kernel
theorem dX6_holder_48 : decode cX6_holder 48 = .ok (.invokevirtual 57, 3) := by decide +kernel
theorem dX6_holder_51 : decode cX6_holder 51 = .ok (.ifCond .eq 23, 3) := by decide +kernel
theorem dX6_holder_54 : decode cX6_holder 54 = .ok (.aload_n 0, 1) := by decide +kernel
theorem dX6_holder_55 : decode cX6_holder 55 = .ok (.iload_n 3, 1) := by decide +kernel
theorem dX6_holder_56 : decode cX6_holder 56 = .ok (.iload 4, 2) := by decide +kernel
theorem dX6_holder_58 : decode cX6_holder 58 = .ok (.invokevirtual 82, 3) := by decide +kernel
theorem dX6_holder_61 : decode cX6_holder 61 = .ok (.ifCond .eq 13, 3) := by decide +kernel
theorem dX6_holder_64 : decode cX6_holder 64 = .ok (.iload_n 2, 1) := by decide +kernel
theorem dX6_holder_65 : decode cX6_holder 65 = .ok (.iload_n 1, 1) := by decide +kernel
theorem dX6_holder_66 : decode cX6_holder 66 = .ok (.if_icmp .ne 5, 3) := by decide +kernel
theorem dX6_holder_69 : decode cX6_holder 69 = .ok (.iload_n 3, 1) := by decide +kernel
theorem dX6_holder_70 : decode cX6_holder 70 = .ok (.ireturn, 1) := by decide +kernel
theorem dX6_holder_71 : decode cX6_holder 71 = .ok (.iinc 2 1, 3) := by decide +kernel
theorem dX6_holder_74 : decode cX6_holder 74 = .ok (.iinc 4 1, 3) := by decide +kernel
theorem dX6_holder_77 : decode cX6_holder 77 = .ok (.goto (-46), 3) := by decide +kernel
theorem dX6_holder_80 : decode cX6_holder 80 = .ok (.iinc 3 1, 3) := by decide +kernel
theorem dX6_holder_83 : decode cX6_holder 83 = .ok (.goto (-79), 3) := by decide +kernel
theorem dX6_holder_86 : decode cX6_holder 86 = .ok (.iconst (-1), 1) := by decide +kernel
theorem dX6_holder_87 : decode cX6_holder 87 = .ok (.ireturn, 1) := by decide +kernel
set_option maxRecDepth 20000 in
theorem ggX6_next_X6_isNode : GoodIn wsX6_next wsX6_isNode := goodIn_r _ [6, 1, 7, 8, 5, 9, 34, 35, 36, 37, 38, 39] (by decide +kernel) (by decide +kernel)
set_option maxRecDepth 20000 in
theorem gX6_next_X6_isNode : GoodIn wsX6_next (wsV RX6 26 RX6 yX6_isNode wsX6_isNode) := goodIn_app (goodIn_of _ (by decide +kernel)) ggX6_next_X6_isNode
set_option maxRecDepth 20000 in
theorem ggX6_next_X6_isTie : GoodIn wsX6_next wsX6_isTie := goodIn_r _ [13, 14, 15, 16, 5, 17, 18, 19, 20, 21, 1, 2, 3, 4, 6, 7, 8, 9, 22, 23, 24, 25, 26, 27, 28, 29, 34, 35, 36, 37, 38, 39] (by decide +kernel) (by decide +kernel)
set_option maxRecDepth 20000 in
theorem gX6_next_X6_isTie : GoodIn wsX6_next (wsV RX6 57 RX6 yX6_isTie wsX6_isTie) := goodIn_app (goodIn_of _ (by decide +kernel)) ggX6_next_X6_isTie
set_option maxRecDepth 20000 in
theorem ggX6_next_X6_firstTie : GoodIn wsX6_next wsX6_firstTie := goodIn_r _ [33, 1, 10, 11, 12, 5, 13, 14, 15, 16, 17, 18, 19, 20, 21, 2, 3, 4, 6, 7, 8, 9, 22, 23, 24, 25, 26, 27, 28, 29, 34, 35, 36, 37, 38, 39] (by decide +kernel) (by decide +kernel)
set_option maxRecDepth 20000 in
theorem gX6_next_X6_firstTie : GoodIn wsX6_next (wsV RX6 67 RX6 yX6_firstTie wsX6_firstTie) := goodIn_app (goodIn_of _ (by decide +kernel)) ggX6_next_X6_firstTie
theorem dX6_next_0 : decode cX6_next 0 = .ok (.aload_n 0, 1) := by decide +kernel
theorem dX6_next_1 : decode cX6_next 1 = .ok (.iload_n 1, 1) := by decide +kernel
theorem dX6_next_2 : decode cX6_next 2 = .ok (.invokevirtual 26, 3) := by decide +kernel
theorem dX6_next_5 : decode cX6_next 5 = .ok (.ifCond .eq 11, 3) := by decide +kernel
theorem dX6_next_8 : decode cX6_next 8 = .ok (.aload_n 0, 1) := by decide +kernel
theorem dX6_next_9 : decode cX6_next 9 = .ok (.iload_n 2, 1) := by decide +kernel
theorem dX6_next_10 : decode cX6_next 10 = .ok (.invokevirtual 26, 3) := by decide +kernel
theorem dX6_next_13 : decode cX6_next 13 = .ok (.ifCond .ne 6, 3) := by decide +kernel
theorem dX6_next_16 : decode cX6_next 16 = .ok (.bipush (-101), 2) := by decide +kernel
theorem dX6_next_18 : decode cX6_next 18 = .ok (.ireturn, 1) := by decide +kernel
theorem dX6_next_19 : decode cX6_next 19 = .ok (.aload_n 0, 1) := by decide +kernel
theorem dX6_next_20 : decode cX6_next 20 = .ok (.iload_n 1, 1) := by decide +kernel
theorem dX6_next_21 : decode cX6_next 21 = .ok (.iload_n 2, 1) := by decide +kernel
theorem dX6_next_22 : decode cX6_next 22 = .ok (.invokevirtual 57, 3) := by decide +kernel
theorem dX6_next_25 : decode cX6_next 25 = .ok (.ifCond .eq 12, 3) := by decide +kernel
theorem dX6_next_28 : decode cX6_next 28 = .ok (.aload_n 0, 1) := by decide +kernel
theorem dX6_next_29 : decode cX6_next 29 = .ok (.iload_n 2, 1) := by decide +kernel
theorem dX6_next_30 : decode cX6_next 30 = .ok (.iload_n 1, 1) := by decide +kernel
theorem dX6_next_31 : decode cX6_next 31 = .ok (.invokevirtual 57, 3) := by decide +kernel
theorem dX6_next_34 : decode cX6_next 34 = .ok (.ifCond .ne 6, 3) := by decide +kernel
theorem dX6_next_37 : decode cX6_next 37 = .ok (.bipush (-102), 2) := by decide +kernel
theorem dX6_next_39 : decode cX6_next 39 = .ok (.ireturn, 1) := by decide +kernel
theorem dX6_next_40 : decode cX6_next 40 = .ok (.aload_n 0, 1) := by decide +kernel
theorem dX6_next_41 : decode cX6_next 41 = .ok (.getfield 7, 3) := by decide +kernel
theorem dX6_next_44 : decode cX6_next 44 = .ok (.sipush 361, 3) := by decide +kernel
theorem dX6_next_47 : decode cX6_next 47 = .ok (.iaload, 1) := by decide +kernel
theorem dX6_next_48 : decode cX6_next 48 = .ok (.ifCond .ne 6, 3) := by decide +kernel
theorem dX6_next_51 : decode cX6_next 51 = .ok (.bipush (-103), 2) := by decide +kernel
theorem dX6_next_53 : decode cX6_next 53 = .ok (.ireturn, 1) := by decide +kernel
theorem dX6_next_54 : decode cX6_next 54 = .ok (.iconst (-1), 1) := by decide +kernel
theorem dX6_next_55 : decode cX6_next 55 = .ok (.istore_n 3, 1) := by decide +kernel
theorem dX6_next_56 : decode cX6_next 56 = .ok (.aload_n 0, 1) := by decide +kernel
theorem dX6_next_57 : decode cX6_next 57 = .ok (.getfield 7, 3) := by decide +kernel
theorem dX6_next_60 : decode cX6_next 60 = .ok (.sipush 360, 3) := by decide +kernel
theorem dX6_next_63 : decode cX6_next 63 = .ok (.iaload, 1) := by decide +kernel
theorem dX6_next_64 : decode cX6_next 64 = .ok (.iconst 1, 1) := by decide +kernel
theorem dX6_next_65 : decode cX6_next 65 = .ok (.isub, 1) := by decide +kernel
theorem dX6_next_66 : decode cX6_next 66 = .ok (.istore 4, 2) := by decide +kernel
theorem dX6_next_68 : decode cX6_next 68 = .ok (.iload 4, 2) := by decide +kernel
theorem dX6_next_70 : decode cX6_next 70 = .ok (.iload_n 1, 1) := by decide +kernel
theorem dX6_next_71 : decode cX6_next 71 = .ok (.if_icmp .le 26, 3) := by decide +kernel
theorem dX6_next_74 : decode cX6_next 74 = .ok (.aload_n 0, 1) := by decide +kernel
theorem dX6_next_75 : decode cX6_next 75 = .ok (.iload_n 2, 1) := by decide +kernel
theorem dX6_next_76 : decode cX6_next 76 = .ok (.iload 4, 2) := by decide +kernel
theorem dX6_next_78 : decode cX6_next 78 = .ok (.invokevirtual 57, 3) := by decide +kernel
theorem dX6_next_81 : decode cX6_next 81 = .ok (.ifCond .eq 8, 3) := by decide +kernel
theorem dX6_next_84 : decode cX6_next 84 = .ok (.iload 4, 2) := by decide +kernel
theorem dX6_next_86 : decode cX6_next 86 = .ok (.goto 4, 3) := by decide +kernel
theorem dX6_next_89 : decode cX6_next 89 = .ok (.iload_n 3, 1) := by decide +kernel
theorem dX6_next_90 : decode cX6_next 90 = .ok (.istore_n 3, 1) := by decide +kernel
theorem dX6_next_91 : decode cX6_next 91 = .ok (.iinc 4 (-1), 3) := by decide +kernel
theorem dX6_next_94 : decode cX6_next 94 = .ok (.goto (-26), 3) := by decide +kernel
theorem dX6_next_97 : decode cX6_next 97 = .ok (.iload_n 3, 1) := by decide +kernel
theorem dX6_next_98 : decode cX6_next 98 = .ok (.iconst (-1), 1) := by decide +kernel
theorem dX6_next_99 : decode cX6_next 99 = .ok (.if_icmp .ne 11, 3) := by decide +kernel
theorem dX6_next_102 : decode cX6_next 102 = .ok (.aload_n 0, 1) := by decide +kernel
theorem dX6_next_103 : decode cX6_next 103 = .ok (.iload_n 2, 1) := by decide +kernel
theorem dX6_next_104 : decode cX6_next 104 = .ok (.invokevirtual 67, 3) := by decide +kernel
theorem dX6_next_107 : decode cX6_next 107 = .ok (.goto 4, 3) := by decide +kernel
theorem dX6_next_110 : decode cX6_next 110 = .ok (.iload_n 3, 1) := by decide +kernel
theorem dX6_next_111 : decode cX6_next 111 = .ok (.ireturn, 1) := by decide +kernel
set_option maxRecDepth 20000 in
theorem ggX6_acts_X6_act : GoodIn wsX6_acts wsX6_act := goodIn_r _ [5, 6, 7, 8, 9, 10, 4, 11, 12, 13, 14, 15, 16, 17, 18, 19, 20, 21, 22, 23, 24, 25, 26, 27, 28, 29, 30, 31, 32, 33, 34, 35, 36, 37, 38, 39, 40, 41, 42, 43, 44, 45, 46, 47, 48, 49, 50, 51, 52, 53, 54, 55, 56, 57, 58, 59, 60, 61, 62, 63, 64, 65, 66, 67, 68, 69, 70, 71, 72, 73, 74, 75, 76, 77, 78, 79, 80, 81, 82, 83, 84, 85, 86, 87, 88] (by decide +kernel) (by decide +kernel)
set_option maxRecDepth 20000 in
theorem gX6_acts_X6_act : GoodIn wsX6_acts (wsV RX6 109 RX6 yX6_act wsX6_act) := goodIn_app (goodIn_of _ (by decide +kernel)) ggX6_acts_X6_act
set_option maxRecDepth 20000 in
theorem ggX6_acts_X6_firstRight : GoodIn wsX6_acts wsX6_firstRight := goodIn_r _ [66, 7, 67, 68, 69, 4, 70, 59, 60, 61, 62, 23, 24, 25, 26, 27, 28, 29, 30, 12, 13, 14, 15, 16, 17, 18, 19, 20, 21, 22, 71, 72, 73, 74, 35, 36, 37, 38, 39, 40, 41, 42, 75, 76, 77, 78, 79, 80, 81, 82, 83, 84, 85, 86, 87, 88] (by decide +kernel) (by decide +kernel)
set_option maxRecDepth 20000 in
theorem gX6_acts_X6_firstRight : GoodIn wsX6_acts (wsV RX6 94 RX6 yX6_firstRight wsX6_firstRight) := goodIn_app (goodIn_of _ (by decide +kernel)) ggX6_acts_X6_firstRight
theorem dX6_acts_0 : decode cX6_acts 0 = .ok (.aload_n 0, 1) := by decide +kernel
theorem dX6_acts_1 : decode cX6_acts 1 = .ok (.iload_n 1, 1) := by decide +kernel
theorem dX6_acts_2 : decode cX6_acts 2 = .ok (.iload_n 2, 1) := by decide +kernel
theorem dX6_acts_3 : decode cX6_acts 3 = .ok (.invokevirtual 109, 3) := by decide +kernel
theorem dX6_acts_6 : decode cX6_acts 6 = .ok (.iload_n 2, 1) := by decide +kernel
theorem dX6_acts_7 : decode cX6_acts 7 = .ok (.iconst 2, 1) := by decide +kernel
theorem dX6_acts_8 : decode cX6_acts 8 = .ok (.if_icmp .ne 18, 3) := by decide +kernel
theorem dX6_acts_11 : decode cX6_acts 11 = .ok (.aload_n 0, 1) := by decide +kernel
theorem dX6_acts_12 : decode cX6_acts 12 = .ok (.iload_n 1, 1) := by decide +kernel
theorem dX6_acts_13 : decode cX6_acts 13 = .ok (.invokevirtual 94, 3) := by decide +kernel
theorem dX6_acts_16 : decode cX6_acts 16 = .ok (.iconst (-1), 1) := by decide +kernel
theorem dX6_acts_17 : decode cX6_acts 17 = .ok (.if_icmp .eq 9, 3) := by decide +kernel
theorem dX6_acts_20 : decode cX6_acts 20 = .ok (.aload_n 0, 1) := by decide +kernel
theorem dX6_acts_21 : decode cX6_acts 21 = .ok (.iload_n 1, 1) := by decide +kernel
theorem dX6_acts_22 : decode cX6_acts 22 = .ok (.iconst 3, 1) := by decide +kernel
theorem dX6_acts_23 : decode cX6_acts 23 = .ok (.invokevirtual 109, 3) := by decide +kernel
theorem dX6_acts_26 : decode cX6_acts 26 = .ok (.return_, 1) := by decide +kernel
set_option maxRecDepth 20000 in
theorem ggX6_act_X6_distOf : GoodIn wsX6_act wsX6_distOf := goodIn_r _ [7, 2, 8, 9, 6, 10, 79, 80, 81, 82, 83, 84] (by decide +kernel) (by decide +kernel)
set_option maxRecDepth 20000 in
theorem gX6_act_X6_distOf : GoodIn wsX6_act (wsV RX6 70 RX6 yX6_distOf wsX6_distOf) := goodIn_app (goodIn_of _ (by decide +kernel)) ggX6_act_X6_distOf
set_option maxRecDepth 20000 in
theorem ggX6_act_X6_parentOf : GoodIn wsX6_act wsX6_parentOf := goodIn_r _ [14, 2, 15, 16, 17, 6, 18, 19, 20, 21, 22, 23, 24, 25, 26, 8, 9, 10, 79, 80, 81, 82, 83, 84] (by decide +kernel) (by decide +kernel)
set_option maxRecDepth 20000 in
theorem gX6_act_X6_parentOf : GoodIn wsX6_act (wsV RX6 50 RX6 yX6_parentOf wsX6_parentOf) := goodIn_app (goodIn_of _ (by decide +kernel)) ggX6_act_X6_parentOf
set_option maxRecDepth 20000 in
theorem ggX6_act_X6_phaseOf : GoodIn wsX6_act wsX6_phaseOf := goodIn_r _ [30, 2, 8, 9, 6, 10, 79, 80, 81, 82, 83, 84] (by decide +kernel) (by decide +kernel)
set_option maxRecDepth 20000 in
theorem gX6_act_X6_phaseOf : GoodIn wsX6_act (wsV RX6 76 RX6 yX6_phaseOf wsX6_phaseOf) := goodIn_app (goodIn_of _ (by decide +kernel)) ggX6_act_X6_phaseOf
set_option maxRecDepth 20000 in
theorem ggX6_act_X6_isLink : GoodIn wsX6_act wsX6_isLink := goodIn_r _ [22, 2, 23, 24, 25, 6, 26, 8, 9, 10, 79, 80, 81, 82, 83, 84] (by decide +kernel) (by decide +kernel)
set_option maxRecDepth 20000 in
theorem gX6_act_X6_isLink : GoodIn wsX6_act (wsV RX6 30 RX6 yX6_isLink wsX6_isLink) := goodIn_app (goodIn_of _ (by decide +kernel)) ggX6_act_X6_isLink
set_option maxRecDepth 20000 in
theorem ggX6_act_X6_xOf : GoodIn wsX6_act wsX6_xOf := goodIn_r _ [34, 2, 35, 36, 37, 6, 38, 8, 9, 10, 79, 80, 81, 82, 83, 84] (by decide +kernel) (by decide +kernel)
set_option maxRecDepth 20000 in
theorem gX6_act_X6_xOf : GoodIn wsX6_act (wsV RX6 60 RX6 yX6_xOf wsX6_xOf) := goodIn_app (goodIn_of _ (by decide +kernel)) ggX6_act_X6_xOf
set_option maxRecDepth 20000 in
theorem ggX6_act_X6_treeDist : GoodIn wsX6_act wsX6_treeDist := goodIn_r _ [42, 2, 43, 44, 45, 6, 46, 19, 20, 21, 22, 23, 24, 25, 26, 8, 9, 10, 3, 4, 5, 7, 79, 80, 81, 82, 83, 84] (by decide +kernel) (by decide +kernel)
set_option maxRecDepth 20000 in
theorem gX6_act_X6_treeDist : GoodIn wsX6_act (wsV RX6 88 RX6 yX6_treeDist wsX6_treeDist) := goodIn_app (goodIn_of _ (by decide +kernel)) ggX6_act_X6_treeDist
set_option maxRecDepth 20000 in
theorem ggX6_act_X6_treeParent : GoodIn wsX6_act wsX6_treeParent := goodIn_r _ [46, 2, 19, 20, 21, 6, 22, 23, 24, 25, 26, 8, 9, 10, 3, 4, 5, 7, 79, 80, 81, 82, 83, 84] (by decide +kernel) (by decide +kernel)
set_option maxRecDepth 20000 in
theorem gX6_act_X6_treeParent : GoodIn wsX6_act (wsV RX6 73 RX6 yX6_treeParent wsX6_treeParent) := goodIn_app (goodIn_of _ (by decide +kernel)) ggX6_act_X6_treeParent
set_option maxRecDepth 20000 in
theorem ggX6_act_X6_wavePhase : GoodIn wsX6_act wsX6_wavePhase := goodIn_r _ [50, 2, 51, 52, 53, 6, 54, 55, 56, 57, 58, 19, 20, 21, 22, 23, 24, 25, 26, 8, 9, 10, 11, 12, 13, 14, 15, 16, 17, 18, 27, 28, 29, 30, 79, 80, 81, 82, 83, 84] (by decide +kernel) (by decide +kernel)
set_option maxRecDepth 20000 in
theorem gX6_act_X6_wavePhase : GoodIn wsX6_act (wsV RX6 91 RX6 yX6_wavePhase wsX6_wavePhase) := goodIn_app (goodIn_of _ (by decide +kernel)) ggX6_act_X6_wavePhase
set_option maxRecDepth 20000 in
theorem ggX6_act_X6_isChild : GoodIn wsX6_act wsX6_isChild := goodIn_r _ [58, 19, 20, 21, 6, 22, 2, 23, 24, 25, 26, 8, 9, 10, 11, 12, 13, 14, 15, 16, 17, 18, 79, 80, 81, 82, 83, 84] (by decide +kernel) (by decide +kernel)
set_option maxRecDepth 20000 in
theorem gX6_act_X6_isChild : GoodIn wsX6_act (wsV RX6 54 RX6 yX6_isChild wsX6_isChild) := goodIn_app (goodIn_of _ (by decide +kernel)) ggX6_act_X6_isChild
set_option maxRecDepth 20000 in
theorem ggX6_act_X6_firstRight : GoodIn wsX6_act wsX6_firstRight := goodIn_r _ [62, 2, 63, 64, 65, 6, 66, 55, 56, 57, 58, 19, 20, 21, 22, 23, 24, 25, 26, 8, 9, 10, 11, 12, 13, 14, 15, 16, 17, 18, 67, 68, 69, 70, 31, 32, 33, 34, 35, 36, 37, 38, 71, 72, 73, 74, 75, 76, 77, 78, 79, 80, 81, 82, 83, 84] (by decide +kernel) (by decide +kernel)
set_option maxRecDepth 20000 in
theorem gX6_act_X6_firstRight : GoodIn wsX6_act (wsV RX6 94 RX6 yX6_firstRight wsX6_firstRight) := goodIn_app (goodIn_of _ (by decide +kernel)) ggX6_act_X6_firstRight
set_option maxRecDepth 20000 in
theorem ggX6_act_X6_tieAhead : GoodIn wsX6_act wsX6_tieAhead := goodIn_r _ [74, 2, 63, 64, 65, 6, 66, 55, 56, 57, 58, 19, 20, 21, 22, 23, 24, 25, 26, 8, 9, 10, 11, 12, 13, 14, 15, 16, 17, 18, 79, 80, 81, 82, 83, 84] (by decide +kernel) (by decide +kernel)
set_option maxRecDepth 20000 in
theorem gX6_act_X6_tieAhead : GoodIn wsX6_act (wsV RX6 64 RX6 yX6_tieAhead wsX6_tieAhead) := goodIn_app (goodIn_of _ (by decide +kernel)) ggX6_act_X6_tieAhead
set_option maxRecDepth 20000 in
theorem ggX6_act_X6_firstTie : GoodIn wsX6_act wsX6_firstTie := goodIn_r _ [78, 2, 63, 64, 65, 6, 66, 55, 56, 57, 58, 19, 20, 21, 22, 23, 24, 25, 26, 8, 9, 10, 11, 12, 13, 14, 15, 16, 17, 18, 79, 80, 81, 82, 83, 84] (by decide +kernel) (by decide +kernel)
set_option maxRecDepth 20000 in
theorem gX6_act_X6_firstTie : GoodIn wsX6_act (wsV RX6 67 RX6 yX6_firstTie wsX6_firstTie) := goodIn_app (goodIn_of _ (by decide +kernel)) ggX6_act_X6_firstTie
set_option maxRecDepth 20000 in
theorem ggX6_act_X6_k : GoodIn wsX6_act wsX6_k := goodIn_r _ [38, 2, 79, 80, 81, 82, 83, 84] (by decide +kernel) (by decide +kernel)
set_option maxRecDepth 20000 in
theorem gX6_act_X6_k : GoodIn wsX6_act (wsV RX6 47 RX6 yX6_k wsX6_k) := goodIn_app (goodIn_of _ (by decide +kernel)) ggX6_act_X6_k
theorem dX6_act_0 : decode cX6_act 0 = .ok (.iload_n 2, 1) := by decide +kernel
theorem dX6_act_1 : decode cX6_act 1 = .ok (.ifCond .ne 97, 3) := by decide +kernel
theorem dX6_act_4 : decode cX6_act 4 = .ok (.aload_n 0, 1) := by decide +kernel
theorem dX6_act_5 : decode cX6_act 5 = .ok (.getfield 16, 3) := by decide +kernel
theorem dX6_act_8 : decode cX6_act 8 = .ok (.bipush 12, 2) := by decide +kernel
theorem dX6_act_10 : decode cX6_act 10 = .ok (.iload_n 1, 1) := by decide +kernel
theorem dX6_act_11 : decode cX6_act 11 = .ok (.iadd, 1) := by decide +kernel
theorem dX6_act_12 : decode cX6_act 12 = .ok (.aload_n 0, 1) := by decide +kernel
theorem dX6_act_13 : decode cX6_act 13 = .ok (.iload_n 1, 1) := by decide +kernel
theorem dX6_act_14 : decode cX6_act 14 = .ok (.invokevirtual 70, 3) := by decide +kernel
theorem dX6_act_17 : decode cX6_act 17 = .ok (.iastore, 1) := by decide +kernel
theorem dX6_act_18 : decode cX6_act 18 = .ok (.aload_n 0, 1) := by decide +kernel
theorem dX6_act_19 : decode cX6_act 19 = .ok (.getfield 16, 3) := by decide +kernel
theorem dX6_act_22 : decode cX6_act 22 = .ok (.bipush 24, 2) := by decide +kernel
theorem dX6_act_24 : decode cX6_act 24 = .ok (.iload_n 1, 1) := by decide +kernel
theorem dX6_act_25 : decode cX6_act 25 = .ok (.iadd, 1) := by decide +kernel
theorem dX6_act_26 : decode cX6_act 26 = .ok (.aload_n 0, 1) := by decide +kernel
theorem dX6_act_27 : decode cX6_act 27 = .ok (.iload_n 1, 1) := by decide +kernel
theorem dX6_act_28 : decode cX6_act 28 = .ok (.invokevirtual 50, 3) := by decide +kernel
theorem dX6_act_31 : decode cX6_act 31 = .ok (.iastore, 1) := by decide +kernel
theorem dX6_act_32 : decode cX6_act 32 = .ok (.aload_n 0, 1) := by decide +kernel
theorem dX6_act_33 : decode cX6_act 33 = .ok (.getfield 16, 3) := by decide +kernel
theorem dX6_act_36 : decode cX6_act 36 = .ok (.bipush 36, 2) := by decide +kernel
theorem dX6_act_38 : decode cX6_act 38 = .ok (.iload_n 1, 1) := by decide +kernel
theorem dX6_act_39 : decode cX6_act 39 = .ok (.iadd, 1) := by decide +kernel
theorem dX6_act_40 : decode cX6_act 40 = .ok (.aload_n 0, 1) := by decide +kernel
theorem dX6_act_41 : decode cX6_act 41 = .ok (.iload_n 1, 1) := by decide +kernel
theorem dX6_act_42 : decode cX6_act 42 = .ok (.invokevirtual 76, 3) := by decide +kernel
theorem dX6_act_45 : decode cX6_act 45 = .ok (.iastore, 1) := by decide +kernel
theorem dX6_act_46 : decode cX6_act 46 = .ok (.iconst 0, 1) := by decide +kernel
theorem dX6_act_47 : decode cX6_act 47 = .ok (.istore_n 3, 1) := by decide +kernel
theorem dX6_act_48 : decode cX6_act 48 = .ok (.iload_n 3, 1) := by decide +kernel
theorem dX6_act_49 : decode cX6_act 49 = .ok (.aload_n 0, 1) := by decide +kernel
theorem dX6_act_50 : decode cX6_act 50 = .ok (.getfield 7, 3) := by decide +kernel
theorem dX6_act_53 : decode cX6_act 53 = .ok (.sipush 360, 3) := by decide +kernel
theorem dX6_act_56 : decode cX6_act 56 = .ok (.iaload, 1) := by decide +kernel
theorem dX6_act_57 : decode cX6_act 57 = .ok (.if_icmp .ge 38, 3) := by decide +kernel
theorem dX6_act_60 : decode cX6_act 60 = .ok (.aload_n 0, 1) := by decide +kernel
theorem dX6_act_61 : decode cX6_act 61 = .ok (.iload_n 1, 1) := by decide +kernel
theorem dX6_act_62 : decode cX6_act 62 = .ok (.iload_n 3, 1) := by decide +kernel
theorem dX6_act_63 : decode cX6_act 63 = .ok (.invokevirtual 30, 3) := by decide +kernel
theorem dX6_act_66 : decode cX6_act 66 = .ok (.ifCond .eq 23, 3) := by decide +kernel
theorem dX6_act_69 : decode cX6_act 69 = .ok (.aload_n 0, 1) := by decide +kernel
theorem dX6_act_70 : decode cX6_act 70 = .ok (.getfield 16, 3) := by decide +kernel
theorem dX6_act_73 : decode cX6_act 73 = .ok (.bipush 72, 2) := by decide +kernel
theorem dX6_act_75 : decode cX6_act 75 = .ok (.bipush 12, 2) := by decide +kernel
theorem dX6_act_77 : decode cX6_act 77 = .ok (.iload_n 1, 1) := by decide +kernel
theorem dX6_act_78 : decode cX6_act 78 = .ok (.imul, 1) := by decide +kernel
theorem dX6_act_79 : decode cX6_act 79 = .ok (.iadd, 1) := by decide +kernel
theorem dX6_act_80 : decode cX6_act 80 = .ok (.iload_n 3, 1) := by decide +kernel
theorem dX6_act_81 : decode cX6_act 81 = .ok (.iadd, 1) := by decide +kernel
theorem dX6_act_82 : decode cX6_act 82 = .ok (.aload_n 0, 1) := by decide +kernel
theorem dX6_act_83 : decode cX6_act 83 = .ok (.iload_n 1, 1) := by decide +kernel
theorem dX6_act_84 : decode cX6_act 84 = .ok (.iload_n 3, 1) := by decide +kernel
theorem dX6_act_85 : decode cX6_act 85 = .ok (.invokevirtual 60, 3) := by decide +kernel
theorem dX6_act_88 : decode cX6_act 88 = .ok (.iastore, 1) := by decide +kernel
theorem dX6_act_89 : decode cX6_act 89 = .ok (.iinc 3 1, 3) := by decide +kernel
theorem dX6_act_92 : decode cX6_act 92 = .ok (.goto (-44), 3) := by decide +kernel
theorem dX6_act_95 : decode cX6_act 95 = .ok (.goto 261, 3) := by decide +kernel
theorem dX6_act_98 : decode cX6_act 98 = .ok (.iload_n 2, 1) := by decide +kernel
theorem dX6_act_99 : decode cX6_act 99 = .ok (.iconst 1, 1) := by decide +kernel
theorem dX6_act_100 : decode cX6_act 100 = .ok (.if_icmp .ne 34, 3) := by decide +kernel
theorem dX6_act_103 : decode cX6_act 103 = .ok (.aload_n 0, 1) := by decide +kernel
theorem dX6_act_104 : decode cX6_act 104 = .ok (.getfield 16, 3) := by decide +kernel
theorem dX6_act_107 : decode cX6_act 107 = .ok (.bipush 12, 2) := by decide +kernel
theorem dX6_act_109 : decode cX6_act 109 = .ok (.iload_n 1, 1) := by decide +kernel
theorem dX6_act_110 : decode cX6_act 110 = .ok (.iadd, 1) := by decide +kernel
theorem dX6_act_111 : decode cX6_act 111 = .ok (.aload_n 0, 1) := by decide +kernel
theorem dX6_act_112 : decode cX6_act 112 = .ok (.iload_n 1, 1) := by decide +kernel
theorem dX6_act_113 : decode cX6_act 113 = .ok (.invokevirtual 88, 3) := by decide +kernel
theorem dX6_act_116 : decode cX6_act 116 = .ok (.iastore, 1) := by decide +kernel
theorem dX6_act_117 : decode cX6_act 117 = .ok (.aload_n 0, 1) := by decide +kernel
theorem dX6_act_118 : decode cX6_act 118 = .ok (.getfield 16, 3) := by decide +kernel
theorem dX6_act_121 : decode cX6_act 121 = .ok (.bipush 24, 2) := by decide +kernel
theorem dX6_act_123 : decode cX6_act 123 = .ok (.iload_n 1, 1) := by decide +kernel
theorem dX6_act_124 : decode cX6_act 124 = .ok (.iadd, 1) := by decide +kernel
theorem dX6_act_125 : decode cX6_act 125 = .ok (.aload_n 0, 1) := by decide +kernel
theorem dX6_act_126 : decode cX6_act 126 = .ok (.iload_n 1, 1) := by decide +kernel
theorem dX6_act_127 : decode cX6_act 127 = .ok (.invokevirtual 73, 3) := by decide +kernel
theorem dX6_act_130 : decode cX6_act 130 = .ok (.iastore, 1) := by decide +kernel
theorem dX6_act_131 : decode cX6_act 131 = .ok (.goto 225, 3) := by decide +kernel
theorem dX6_act_134 : decode cX6_act 134 = .ok (.iload_n 2, 1) := by decide +kernel
theorem dX6_act_135 : decode cX6_act 135 = .ok (.iconst 2, 1) := by decide +kernel
theorem dX6_act_136 : decode cX6_act 136 = .ok (.if_icmp .ne 147, 3) := by decide +kernel
theorem dX6_act_139 : decode cX6_act 139 = .ok (.aload_n 0, 1) := by decide +kernel
theorem dX6_act_140 : decode cX6_act 140 = .ok (.getfield 7, 3) := by decide +kernel
theorem dX6_act_143 : decode cX6_act 143 = .ok (.bipush 36, 2) := by decide +kernel
theorem dX6_act_145 : decode cX6_act 145 = .ok (.iload_n 1, 1) := by decide +kernel
theorem dX6_act_146 : decode cX6_act 146 = .ok (.iadd, 1) := by decide +kernel
theorem dX6_act_147 : decode cX6_act 147 = .ok (.iaload, 1) := by decide +kernel
theorem dX6_act_148 : decode cX6_act 148 = .ok (.istore_n 3, 1) := by decide +kernel
theorem dX6_act_149 : decode cX6_act 149 = .ok (.aload_n 0, 1) := by decide +kernel
theorem dX6_act_150 : decode cX6_act 150 = .ok (.iload_n 1, 1) := by decide +kernel
theorem dX6_act_151 : decode cX6_act 151 = .ok (.invokevirtual 91, 3) := by decide +kernel
theorem dX6_act_154 : decode cX6_act 154 = .ok (.istore 4, 2) := by decide +kernel
theorem dX6_act_156 : decode cX6_act 156 = .ok (.aload_n 0, 1) := by decide +kernel
theorem dX6_act_157 : decode cX6_act 157 = .ok (.getfield 16, 3) := by decide +kernel
theorem dX6_act_160 : decode cX6_act 160 = .ok (.bipush 36, 2) := by decide +kernel
theorem dX6_act_162 : decode cX6_act 162 = .ok (.iload_n 1, 1) := by decide +kernel
theorem dX6_act_163 : decode cX6_act 163 = .ok (.iadd, 1) := by decide +kernel
theorem dX6_act_164 : decode cX6_act 164 = .ok (.iload 4, 2) := by decide +kernel
theorem dX6_act_166 : decode cX6_act 166 = .ok (.iastore, 1) := by decide +kernel
theorem dX6_act_167 : decode cX6_act 167 = .ok (.iload_n 3, 1) := by decide +kernel
theorem dX6_act_168 : decode cX6_act 168 = .ok (.iconst 1, 1) := by decide +kernel
theorem dX6_act_169 : decode cX6_act 169 = .ok (.if_icmp .ne 111, 3) := by decide +kernel
theorem dX6_act_172 : decode cX6_act 172 = .ok (.iload_n 1, 1) := by decide +kernel
theorem dX6_act_173 : decode cX6_act 173 = .ok (.ifCond .eq 9, 3) := by decide +kernel
theorem dX6_act_176 : decode cX6_act 176 = .ok (.iload 4, 2) := by decide +kernel
theorem dX6_act_178 : decode cX6_act 178 = .ok (.iconst 2, 1) := by decide +kernel
theorem dX6_act_179 : decode cX6_act 179 = .ok (.if_icmp .ne 101, 3) := by decide +kernel
theorem dX6_act_182 : decode cX6_act 182 = .ok (.aload_n 0, 1) := by decide +kernel
theorem dX6_act_183 : decode cX6_act 183 = .ok (.getfield 7, 3) := by decide +kernel
theorem dX6_act_186 : decode cX6_act 186 = .ok (.iconst 0, 1) := by decide +kernel
theorem dX6_act_187 : decode cX6_act 187 = .ok (.iload_n 1, 1) := by decide +kernel
theorem dX6_act_188 : decode cX6_act 188 = .ok (.iadd, 1) := by decide +kernel
theorem dX6_act_189 : decode cX6_act 189 = .ok (.iaload, 1) := by decide +kernel
theorem dX6_act_190 : decode cX6_act 190 = .ok (.istore 5, 2) := by decide +kernel
theorem dX6_act_192 : decode cX6_act 192 = .ok (.iconst 0, 1) := by decide +kernel
theorem dX6_act_193 : decode cX6_act 193 = .ok (.istore 6, 2) := by decide +kernel
theorem dX6_act_195 : decode cX6_act 195 = .ok (.iload 6, 2) := by decide +kernel
theorem dX6_act_197 : decode cX6_act 197 = .ok (.aload_n 0, 1) := by decide +kernel
theorem dX6_act_198 : decode cX6_act 198 = .ok (.getfield 7, 3) := by decide +kernel
theorem dX6_act_201 : decode cX6_act 201 = .ok (.sipush 360, 3) := by decide +kernel
theorem dX6_act_204 : decode cX6_act 204 = .ok (.iaload, 1) := by decide +kernel
theorem dX6_act_205 : decode cX6_act 205 = .ok (.if_icmp .ge 38, 3) := by decide +kernel
theorem dX6_act_208 : decode cX6_act 208 = .ok (.iload 5, 2) := by decide +kernel
theorem dX6_act_210 : decode cX6_act 210 = .ok (.aload_n 0, 1) := by decide +kernel
theorem dX6_act_211 : decode cX6_act 211 = .ok (.iload_n 1, 1) := by decide +kernel
theorem dX6_act_212 : decode cX6_act 212 = .ok (.iload 6, 2) := by decide +kernel
theorem dX6_act_214 : decode cX6_act 214 = .ok (.invokevirtual 54, 3) := by decide +kernel
theorem dX6_act_217 : decode cX6_act 217 = .ok (.ifCond .eq 16, 3) := by decide +kernel
theorem dX6_act_220 : decode cX6_act 220 = .ok (.aload_n 0, 1) := by decide +kernel
theorem dX6_act_221 : decode cX6_act 221 = .ok (.getfield 7, 3) := by decide +kernel
theorem dX6_act_224 : decode cX6_act 224 = .ok (.bipush 48, 2) := by decide +kernel
theorem dX6_act_226 : decode cX6_act 226 = .ok (.iload 6, 2) := by decide +kernel
theorem dX6_act_228 : decode cX6_act 228 = .ok (.iadd, 1) := by decide +kernel
theorem dX6_act_229 : decode cX6_act 229 = .ok (.iaload, 1) := by decide +kernel
theorem dX6_act_230 : decode cX6_act 230 = .ok (.goto 4, 3) := by decide +kernel
theorem dX6_act_233 : decode cX6_act 233 = .ok (.iconst 0, 1) := by decide +kernel
theorem dX6_act_234 : decode cX6_act 234 = .ok (.iadd, 1) := by decide +kernel
theorem dX6_act_235 : decode cX6_act 235 = .ok (.istore 5, 2) := by decide +kernel
theorem dX6_act_237 : decode cX6_act 237 = .ok (.iinc 6 1, 3) := by decide +kernel
theorem dX6_act_240 : decode cX6_act 240 = .ok (.goto (-45), 3) := by decide +kernel
theorem dX6_act_243 : decode cX6_act 243 = .ok (.aload_n 0, 1) := by decide +kernel
theorem dX6_act_244 : decode cX6_act 244 = .ok (.getfield 16, 3) := by decide +kernel
theorem dX6_act_247 : decode cX6_act 247 = .ok (.bipush 48, 2) := by decide +kernel
theorem dX6_act_249 : decode cX6_act 249 = .ok (.iload_n 1, 1) := by decide +kernel
theorem dX6_act_250 : decode cX6_act 250 = .ok (.iadd, 1) := by decide +kernel
theorem dX6_act_251 : decode cX6_act 251 = .ok (.iload 5, 2) := by decide +kernel
theorem dX6_act_253 : decode cX6_act 253 = .ok (.iastore, 1) := by decide +kernel
theorem dX6_act_254 : decode cX6_act 254 = .ok (.iload_n 1, 1) := by decide +kernel
theorem dX6_act_255 : decode cX6_act 255 = .ok (.ifCond .ne 25, 3) := by decide +kernel
theorem dX6_act_258 : decode cX6_act 258 = .ok (.aload_n 0, 1) := by decide +kernel
theorem dX6_act_259 : decode cX6_act 259 = .ok (.getfield 16, 3) := by decide +kernel
theorem dX6_act_262 : decode cX6_act 262 = .ok (.sipush 368, 3) := by decide +kernel
theorem dX6_act_265 : decode cX6_act 265 = .ok (.dup2, 1) := by decide +kernel
theorem dX6_act_266 : decode cX6_act 266 = .ok (.iaload, 1) := by decide +kernel
theorem dX6_act_267 : decode cX6_act 267 = .ok (.iconst 1, 1) := by decide +kernel
theorem dX6_act_268 : decode cX6_act 268 = .ok (.iadd, 1) := by decide +kernel
theorem dX6_act_269 : decode cX6_act 269 = .ok (.iastore, 1) := by decide +kernel
theorem dX6_act_270 : decode cX6_act 270 = .ok (.aload_n 0, 1) := by decide +kernel
theorem dX6_act_271 : decode cX6_act 271 = .ok (.getfield 16, 3) := by decide +kernel
theorem dX6_act_274 : decode cX6_act 274 = .ok (.sipush 369, 3) := by decide +kernel
theorem dX6_act_277 : decode cX6_act 277 = .ok (.iload 5, 2) := by decide +kernel
theorem dX6_act_279 : decode cX6_act 279 = .ok (.iastore, 1) := by decide +kernel
theorem dX6_act_280 : decode cX6_act 280 = .ok (.goto 76, 3) := by decide +kernel
theorem dX6_act_283 : decode cX6_act 283 = .ok (.aload_n 0, 1) := by decide +kernel
theorem dX6_act_284 : decode cX6_act 284 = .ok (.iload_n 1, 1) := by decide +kernel
theorem dX6_act_285 : decode cX6_act 285 = .ok (.invokevirtual 94, 3) := by decide +kernel
theorem dX6_act_288 : decode cX6_act 288 = .ok (.istore_n 3, 1) := by decide +kernel
theorem dX6_act_289 : decode cX6_act 289 = .ok (.aload_n 0, 1) := by decide +kernel
theorem dX6_act_290 : decode cX6_act 290 = .ok (.aload_n 0, 1) := by decide +kernel
theorem dX6_act_291 : decode cX6_act 291 = .ok (.iload_n 1, 1) := by decide +kernel
theorem dX6_act_292 : decode cX6_act 292 = .ok (.iload_n 3, 1) := by decide +kernel
theorem dX6_act_293 : decode cX6_act 293 = .ok (.invokevirtual 64, 3) := by decide +kernel
theorem dX6_act_296 : decode cX6_act 296 = .ok (.iload_n 1, 1) := by decide +kernel
theorem dX6_act_297 : decode cX6_act 297 = .ok (.invokevirtual 60, 3) := by decide +kernel
theorem dX6_act_300 : decode cX6_act 300 = .ok (.istore 4, 2) := by decide +kernel
theorem dX6_act_302 : decode cX6_act 302 = .ok (.aload_n 0, 1) := by decide +kernel
theorem dX6_act_303 : decode cX6_act 303 = .ok (.getfield 16, 3) := by decide +kernel
theorem dX6_act_306 : decode cX6_act 306 = .ok (.bipush 72, 2) := by decide +kernel
theorem dX6_act_308 : decode cX6_act 308 = .ok (.bipush 12, 2) := by decide +kernel
theorem dX6_act_310 : decode cX6_act 310 = .ok (.iload_n 1, 1) := by decide +kernel
theorem dX6_act_311 : decode cX6_act 311 = .ok (.imul, 1) := by decide +kernel
theorem dX6_act_312 : decode cX6_act 312 = .ok (.iadd, 1) := by decide +kernel
theorem dX6_act_313 : decode cX6_act 313 = .ok (.iload_n 3, 1) := by decide +kernel
theorem dX6_act_314 : decode cX6_act 314 = .ok (.iadd, 1) := by decide +kernel
theorem dX6_act_315 : decode cX6_act 315 = .ok (.iload_n 1, 1) := by decide +kernel
theorem dX6_act_316 : decode cX6_act 316 = .ok (.ifCond .ne 24, 3) := by decide +kernel
theorem dX6_act_319 : decode cX6_act 319 = .ok (.iload_n 3, 1) := by decide +kernel
theorem dX6_act_320 : decode cX6_act 320 = .ok (.aload_n 0, 1) := by decide +kernel
theorem dX6_act_321 : decode cX6_act 321 = .ok (.iconst 0, 1) := by decide +kernel
theorem dX6_act_322 : decode cX6_act 322 = .ok (.invokevirtual 67, 3) := by decide +kernel
theorem dX6_act_325 : decode cX6_act 325 = .ok (.if_icmp .ne 15, 3) := by decide +kernel
theorem dX6_act_328 : decode cX6_act 328 = .ok (.iload 4, 2) := by decide +kernel
theorem dX6_act_330 : decode cX6_act 330 = .ok (.iconst 1, 1) := by decide +kernel
theorem dX6_act_331 : decode cX6_act 331 = .ok (.iadd, 1) := by decide +kernel
theorem dX6_act_332 : decode cX6_act 332 = .ok (.aload_n 0, 1) := by decide +kernel
theorem dX6_act_333 : decode cX6_act 333 = .ok (.invokevirtual 47, 3) := by decide +kernel
theorem dX6_act_336 : decode cX6_act 336 = .ok (.irem, 1) := by decide +kernel
theorem dX6_act_337 : decode cX6_act 337 = .ok (.goto 5, 3) := by decide +kernel
theorem dX6_act_340 : decode cX6_act 340 = .ok (.iload 4, 2) := by decide +kernel
theorem dX6_act_342 : decode cX6_act 342 = .ok (.iastore, 1) := by decide +kernel
theorem dX6_act_343 : decode cX6_act 343 = .ok (.aload_n 0, 1) := by decide +kernel
theorem dX6_act_344 : decode cX6_act 344 = .ok (.getfield 16, 3) := by decide +kernel
theorem dX6_act_347 : decode cX6_act 347 = .ok (.bipush 60, 2) := by decide +kernel
theorem dX6_act_349 : decode cX6_act 349 = .ok (.iload_n 1, 1) := by decide +kernel
theorem dX6_act_350 : decode cX6_act 350 = .ok (.iadd, 1) := by decide +kernel
theorem dX6_act_351 : decode cX6_act 351 = .ok (.dup2, 1) := by decide +kernel
theorem dX6_act_352 : decode cX6_act 352 = .ok (.iaload, 1) := by decide +kernel
theorem dX6_act_353 : decode cX6_act 353 = .ok (.iconst 1, 1) := by decide +kernel
theorem dX6_act_354 : decode cX6_act 354 = .ok (.iadd, 1) := by decide +kernel
theorem dX6_act_355 : decode cX6_act 355 = .ok (.iastore, 1) := by decide +kernel
theorem dX6_act_356 : decode cX6_act 356 = .ok (.aload_n 0, 1) := by decide +kernel
theorem dX6_act_357 : decode cX6_act 357 = .ok (.getfield 16, 3) := by decide +kernel
theorem dX6_act_360 : decode cX6_act 360 = .ok (.sipush 364, 3) := by decide +kernel
theorem dX6_act_363 : decode cX6_act 363 = .ok (.iload_n 2, 1) := by decide +kernel
theorem dX6_act_364 : decode cX6_act 364 = .ok (.iadd, 1) := by decide +kernel
theorem dX6_act_365 : decode cX6_act 365 = .ok (.dup2, 1) := by decide +kernel
theorem dX6_act_366 : decode cX6_act 366 = .ok (.iaload, 1) := by decide +kernel
theorem dX6_act_367 : decode cX6_act 367 = .ok (.iconst 1, 1) := by decide +kernel
theorem dX6_act_368 : decode cX6_act 368 = .ok (.iadd, 1) := by decide +kernel
theorem dX6_act_369 : decode cX6_act 369 = .ok (.iastore, 1) := by decide +kernel
theorem dX6_act_370 : decode cX6_act 370 = .ok (.return_, 1) := by decide +kernel
set_option maxRecDepth 20000 in
theorem ggX6_doStep_X6_ruleOf : GoodIn wsX6_doStep wsX6_ruleOf := goodIn_r _ [7, 2, 8, 9, 10, 6, 11, 12, 13, 14, 15, 16, 17, 18, 19, 20, 21, 22, 23, 24, 25, 26, 27, 28, 29, 30, 31, 32, 33, 34, 35, 36, 37, 38, 39, 40, 41, 42, 43, 44, 45, 46, 47, 48, 49, 50, 51, 52, 53, 54, 55, 56, 57, 58, 59, 60, 61, 62, 63, 64, 65, 66, 67, 68, 69, 70, 71, 72, 73, 74, 75, 76, 77, 78, 79, 80, 81, 82, 83, 84, 85, 86, 103, 104, 105, 106, 107, 108] (by decide +kernel) (by decide +kernel)
set_option maxRecDepth 20000 in
theorem gX6_doStep_X6_ruleOf : GoodIn wsX6_doStep (wsV RX6 97 RX6 yX6_ruleOf wsX6_ruleOf) := goodIn_app (goodIn_of _ (by decide +kernel)) ggX6_doStep_X6_ruleOf
set_option maxRecDepth 20000 in
theorem ggX6_doStep_X6_acts : GoodIn wsX6_doStep wsX6_acts := goodIn_r _ [90, 91, 92, 93, 6, 94, 1, 2, 39, 40, 41, 42, 12, 13, 14, 55, 56, 57, 58, 15, 16, 17, 18, 19, 20, 21, 22, 23, 24, 25, 26, 59, 60, 61, 62, 75, 76, 77, 78, 27, 28, 29, 30, 31, 32, 33, 34, 35, 36, 37, 38, 43, 44, 45, 46, 47, 48, 49, 50, 51, 52, 53, 54, 63, 64, 65, 66, 67, 68, 69, 70, 71, 72, 73, 74, 79, 80, 81, 82, 83, 84, 85, 86, 103, 104, 105, 106, 107, 108] (by decide +kernel) (by decide +kernel)
set_option maxRecDepth 20000 in
theorem gX6_doStep_X6_acts : GoodIn wsX6_doStep (wsV RX6 113 RX6 yX6_acts wsX6_acts) := goodIn_app (goodIn_of _ (by decide +kernel)) ggX6_doStep_X6_acts
set_option maxRecDepth 20000 in
theorem ggX6_doStep_X6_enabledAll : GoodIn wsX6_doStep wsX6_enabledAll := goodIn_r _ [98, 2, 3, 4, 5, 6, 7, 8, 9, 10, 11, 12, 13, 14, 15, 16, 17, 18, 19, 20, 21, 22, 23, 24, 25, 26, 27, 28, 29, 30, 31, 32, 33, 34, 35, 36, 37, 38, 39, 40, 41, 42, 43, 44, 45, 46, 47, 48, 49, 50, 51, 52, 53, 54, 55, 56, 57, 58, 59, 60, 61, 62, 63, 64, 65, 66, 67, 68, 69, 70, 71, 72, 73, 74, 75, 76, 77, 78, 79, 80, 81, 82, 83, 84, 85, 86, 103, 104, 105, 106, 107, 108] (by decide +kernel) (by decide +kernel)
set_option maxRecDepth 20000 in
theorem gX6_doStep_X6_enabledAll : GoodIn wsX6_doStep (wsV RX6 100 RX6 yX6_enabledAll wsX6_enabledAll) := goodIn_app (goodIn_of _ (by decide +kernel)) ggX6_doStep_X6_enabledAll
set_option maxRecDepth 20000 in
theorem ggX6_doStep_X6_beginRound : GoodIn wsX6_doStep wsX6_beginRound := goodIn_r _ [102, 2, 95, 96, 97, 6, 98, 3, 4, 5, 7, 8, 9, 10, 11, 12, 13, 14, 15, 16, 17, 18, 19, 20, 21, 22, 23, 24, 25, 26, 27, 28, 29, 30, 31, 32, 33, 34, 35, 36, 37, 38, 39, 40, 41, 42, 43, 44, 45, 46, 47, 48, 49, 50, 51, 52, 53, 54, 55, 56, 57, 58, 59, 60, 61, 62, 63, 64, 65, 66, 67, 68, 69, 70, 71, 72, 73, 74, 75, 76, 77, 78, 79, 80, 81, 82, 83, 84, 85, 86, 103, 104, 105, 106, 107, 108] (by decide +kernel) (by decide +kernel)
set_option maxRecDepth 20000 in
theorem gX6_doStep_X6_beginRound : GoodIn wsX6_doStep (wsV RX6 37 RX6 yX6_beginRound wsX6_beginRound) := goodIn_app (goodIn_of _ (by decide +kernel)) ggX6_doStep_X6_beginRound
theorem dX6_doStep_0 : decode cX6_doStep 0 = .ok (.iconst 0, 1) := by decide +kernel
theorem dX6_doStep_1 : decode cX6_doStep 1 = .ok (.istore_n 2, 1) := by decide +kernel
theorem dX6_doStep_2 : decode cX6_doStep 2 = .ok (.iload_n 2, 1) := by decide +kernel
theorem dX6_doStep_3 : decode cX6_doStep 3 = .ok (.sipush 374, 3) := by decide +kernel
theorem dX6_doStep_6 : decode cX6_doStep 6 = .ok (.if_icmp .ge 21, 3) := by decide +kernel
theorem dX6_doStep_9 : decode cX6_doStep 9 = .ok (.aload_n 0, 1) := by decide +kernel
theorem dX6_doStep_10 : decode cX6_doStep 10 = .ok (.getfield 16, 3) := by decide +kernel
theorem dX6_doStep_13 : decode cX6_doStep 13 = .ok (.iload_n 2, 1) := by decide +kernel
theorem dX6_doStep_14 : decode cX6_doStep 14 = .ok (.aload_n 0, 1) := by decide +kernel
theorem dX6_doStep_15 : decode cX6_doStep 15 = .ok (.getfield 7, 3) := by decide +kernel
theorem dX6_doStep_18 : decode cX6_doStep 18 = .ok (.iload_n 2, 1) := by decide +kernel
theorem dX6_doStep_19 : decode cX6_doStep 19 = .ok (.iaload, 1) := by decide +kernel
theorem dX6_doStep_20 : decode cX6_doStep 20 = .ok (.iastore, 1) := by decide +kernel
theorem dX6_doStep_21 : decode cX6_doStep 21 = .ok (.iinc 2 1, 3) := by decide +kernel
theorem dX6_doStep_24 : decode cX6_doStep 24 = .ok (.goto (-22), 3) := by decide +kernel
theorem dX6_doStep_27 : decode cX6_doStep 27 = .ok (.iconst 0, 1) := by decide +kernel
theorem dX6_doStep_28 : decode cX6_doStep 28 = .ok (.istore_n 2, 1) := by decide +kernel
theorem dX6_doStep_29 : decode cX6_doStep 29 = .ok (.iconst 0, 1) := by decide +kernel
theorem dX6_doStep_30 : decode cX6_doStep 30 = .ok (.istore_n 3, 1) := by decide +kernel
theorem dX6_doStep_31 : decode cX6_doStep 31 = .ok (.iconst 0, 1) := by decide +kernel
theorem dX6_doStep_32 : decode cX6_doStep 32 = .ok (.istore 4, 2) := by decide +kernel
theorem dX6_doStep_34 : decode cX6_doStep 34 = .ok (.iload 4, 2) := by decide +kernel
theorem dX6_doStep_36 : decode cX6_doStep 36 = .ok (.aload_n 0, 1) := by decide +kernel
theorem dX6_doStep_37 : decode cX6_doStep 37 = .ok (.getfield 7, 3) := by decide +kernel
theorem dX6_doStep_40 : decode cX6_doStep 40 = .ok (.sipush 360, 3) := by decide +kernel
theorem dX6_doStep_43 : decode cX6_doStep 43 = .ok (.iaload, 1) := by decide +kernel
theorem dX6_doStep_44 : decode cX6_doStep 44 = .ok (.if_icmp .ge 55, 3) := by decide +kernel
theorem dX6_doStep_47 : decode cX6_doStep 47 = .ok (.iload_n 1, 1) := by decide +kernel
theorem dX6_doStep_48 : decode cX6_doStep 48 = .ok (.iload 4, 2) := by decide +kernel
theorem dX6_doStep_50 : decode cX6_doStep 50 = .ok (.ishr, 1) := by decide +kernel
theorem dX6_doStep_51 : decode cX6_doStep 51 = .ok (.iconst 1, 1) := by decide +kernel
theorem dX6_doStep_52 : decode cX6_doStep 52 = .ok (.iand, 1) := by decide +kernel
theorem dX6_doStep_53 : decode cX6_doStep 53 = .ok (.iconst 1, 1) := by decide +kernel
theorem dX6_doStep_54 : decode cX6_doStep 54 = .ok (.if_icmp .ne 12, 3) := by decide +kernel
theorem dX6_doStep_57 : decode cX6_doStep 57 = .ok (.aload_n 0, 1) := by decide +kernel
theorem dX6_doStep_58 : decode cX6_doStep 58 = .ok (.iload 4, 2) := by decide +kernel
theorem dX6_doStep_60 : decode cX6_doStep 60 = .ok (.invokevirtual 97, 3) := by decide +kernel
theorem dX6_doStep_63 : decode cX6_doStep 63 = .ok (.goto 4, 3) := by decide +kernel
theorem dX6_doStep_66 : decode cX6_doStep 66 = .ok (.iconst (-1), 1) := by decide +kernel
theorem dX6_doStep_67 : decode cX6_doStep 67 = .ok (.istore 5, 2) := by decide +kernel
theorem dX6_doStep_69 : decode cX6_doStep 69 = .ok (.iload 5, 2) := by decide +kernel
theorem dX6_doStep_71 : decode cX6_doStep 71 = .ok (.iconst (-1), 1) := by decide +kernel
theorem dX6_doStep_72 : decode cX6_doStep 72 = .ok (.if_icmp .eq 21, 3) := by decide +kernel
theorem dX6_doStep_75 : decode cX6_doStep 75 = .ok (.aload_n 0, 1) := by decide +kernel
theorem dX6_doStep_76 : decode cX6_doStep 76 = .ok (.iload 4, 2) := by decide +kernel
theorem dX6_doStep_78 : decode cX6_doStep 78 = .ok (.iload 5, 2) := by decide +kernel
theorem dX6_doStep_80 : decode cX6_doStep 80 = .ok (.invokevirtual 113, 3) := by decide +kernel
theorem dX6_doStep_83 : decode cX6_doStep 83 = .ok (.iinc 2 1, 3) := by decide +kernel
theorem dX6_doStep_86 : decode cX6_doStep 86 = .ok (.iload_n 3, 1) := by decide +kernel
theorem dX6_doStep_87 : decode cX6_doStep 87 = .ok (.iconst 1, 1) := by decide +kernel
theorem dX6_doStep_88 : decode cX6_doStep 88 = .ok (.iload 4, 2) := by decide +kernel
theorem dX6_doStep_90 : decode cX6_doStep 90 = .ok (.ishl, 1) := by decide +kernel
theorem dX6_doStep_91 : decode cX6_doStep 91 = .ok (.ior, 1) := by decide +kernel
theorem dX6_doStep_92 : decode cX6_doStep 92 = .ok (.istore_n 3, 1) := by decide +kernel
theorem dX6_doStep_93 : decode cX6_doStep 93 = .ok (.iinc 4 1, 3) := by decide +kernel
theorem dX6_doStep_96 : decode cX6_doStep 96 = .ok (.goto (-62), 3) := by decide +kernel
theorem dX6_doStep_99 : decode cX6_doStep 99 = .ok (.iload_n 2, 1) := by decide +kernel
theorem dX6_doStep_100 : decode cX6_doStep 100 = .ok (.ifCond .ne 5, 3) := by decide +kernel
theorem dX6_doStep_103 : decode cX6_doStep 103 = .ok (.iconst 0, 1) := by decide +kernel
theorem dX6_doStep_104 : decode cX6_doStep 104 = .ok (.ireturn, 1) := by decide +kernel
theorem dX6_doStep_105 : decode cX6_doStep 105 = .ok (.iconst 0, 1) := by decide +kernel
theorem dX6_doStep_106 : decode cX6_doStep 106 = .ok (.istore 4, 2) := by decide +kernel
theorem dX6_doStep_108 : decode cX6_doStep 108 = .ok (.iload 4, 2) := by decide +kernel
theorem dX6_doStep_110 : decode cX6_doStep 110 = .ok (.sipush 374, 3) := by decide +kernel
theorem dX6_doStep_113 : decode cX6_doStep 113 = .ok (.if_icmp .ge 23, 3) := by decide +kernel
theorem dX6_doStep_116 : decode cX6_doStep 116 = .ok (.aload_n 0, 1) := by decide +kernel
theorem dX6_doStep_117 : decode cX6_doStep 117 = .ok (.getfield 7, 3) := by decide +kernel
theorem dX6_doStep_120 : decode cX6_doStep 120 = .ok (.iload 4, 2) := by decide +kernel
theorem dX6_doStep_122 : decode cX6_doStep 122 = .ok (.aload_n 0, 1) := by decide +kernel
theorem dX6_doStep_123 : decode cX6_doStep 123 = .ok (.getfield 16, 3) := by decide +kernel
theorem dX6_doStep_126 : decode cX6_doStep 126 = .ok (.iload 4, 2) := by decide +kernel
theorem dX6_doStep_128 : decode cX6_doStep 128 = .ok (.iaload, 1) := by decide +kernel
theorem dX6_doStep_129 : decode cX6_doStep 129 = .ok (.iastore, 1) := by decide +kernel
theorem dX6_doStep_130 : decode cX6_doStep 130 = .ok (.iinc 4 1, 3) := by decide +kernel
theorem dX6_doStep_133 : decode cX6_doStep 133 = .ok (.goto (-25), 3) := by decide +kernel
theorem dX6_doStep_136 : decode cX6_doStep 136 = .ok (.aload_n 0, 1) := by decide +kernel
theorem dX6_doStep_137 : decode cX6_doStep 137 = .ok (.getfield 7, 3) := by decide +kernel
theorem dX6_doStep_140 : decode cX6_doStep 140 = .ok (.sipush 362, 3) := by decide +kernel
theorem dX6_doStep_143 : decode cX6_doStep 143 = .ok (.dup2, 1) := by decide +kernel
theorem dX6_doStep_144 : decode cX6_doStep 144 = .ok (.iaload, 1) := by decide +kernel
theorem dX6_doStep_145 : decode cX6_doStep 145 = .ok (.iconst 1, 1) := by decide +kernel
theorem dX6_doStep_146 : decode cX6_doStep 146 = .ok (.iadd, 1) := by decide +kernel
theorem dX6_doStep_147 : decode cX6_doStep 147 = .ok (.iastore, 1) := by decide +kernel
theorem dX6_doStep_148 : decode cX6_doStep 148 = .ok (.aload_n 0, 1) := by decide +kernel
theorem dX6_doStep_149 : decode cX6_doStep 149 = .ok (.getfield 7, 3) := by decide +kernel
theorem dX6_doStep_152 : decode cX6_doStep 152 = .ok (.sipush 373, 3) := by decide +kernel
theorem dX6_doStep_155 : decode cX6_doStep 155 = .ok (.iaload, 1) := by decide +kernel
theorem dX6_doStep_156 : decode cX6_doStep 156 = .ok (.iload_n 3, 1) := by decide +kernel
theorem dX6_doStep_157 : decode cX6_doStep 157 = .ok (.iconst (-1), 1) := by decide +kernel
theorem dX6_doStep_158 : decode cX6_doStep 158 = .ok (.ixor, 1) := by decide +kernel
theorem dX6_doStep_159 : decode cX6_doStep 159 = .ok (.iand, 1) := by decide +kernel
theorem dX6_doStep_160 : decode cX6_doStep 160 = .ok (.aload_n 0, 1) := by decide +kernel
theorem dX6_doStep_161 : decode cX6_doStep 161 = .ok (.invokevirtual 100, 3) := by decide +kernel
theorem dX6_doStep_164 : decode cX6_doStep 164 = .ok (.iand, 1) := by decide +kernel
theorem dX6_doStep_165 : decode cX6_doStep 165 = .ok (.istore 4, 2) := by decide +kernel
theorem dX6_doStep_167 : decode cX6_doStep 167 = .ok (.aload_n 0, 1) := by decide +kernel
theorem dX6_doStep_168 : decode cX6_doStep 168 = .ok (.getfield 7, 3) := by decide +kernel
theorem dX6_doStep_171 : decode cX6_doStep 171 = .ok (.sipush 373, 3) := by decide +kernel
theorem dX6_doStep_174 : decode cX6_doStep 174 = .ok (.iload 4, 2) := by decide +kernel
theorem dX6_doStep_176 : decode cX6_doStep 176 = .ok (.iastore, 1) := by decide +kernel
theorem dX6_doStep_177 : decode cX6_doStep 177 = .ok (.iload 4, 2) := by decide +kernel
theorem dX6_doStep_179 : decode cX6_doStep 179 = .ok (.ifCond .ne 19, 3) := by decide +kernel
theorem dX6_doStep_182 : decode cX6_doStep 182 = .ok (.aload_n 0, 1) := by decide +kernel
theorem dX6_doStep_183 : decode cX6_doStep 183 = .ok (.getfield 7, 3) := by decide +kernel
theorem dX6_doStep_186 : decode cX6_doStep 186 = .ok (.sipush 363, 3) := by decide +kernel
theorem dX6_doStep_189 : decode cX6_doStep 189 = .ok (.dup2, 1) := by decide +kernel
theorem dX6_doStep_190 : decode cX6_doStep 190 = .ok (.iaload, 1) := by decide +kernel
theorem dX6_doStep_191 : decode cX6_doStep 191 = .ok (.iconst 1, 1) := by decide +kernel
theorem dX6_doStep_192 : decode cX6_doStep 192 = .ok (.iadd, 1) := by decide +kernel
theorem dX6_doStep_193 : decode cX6_doStep 193 = .ok (.iastore, 1) := by decide +kernel
theorem dX6_doStep_194 : decode cX6_doStep 194 = .ok (.aload_n 0, 1) := by decide +kernel
theorem dX6_doStep_195 : decode cX6_doStep 195 = .ok (.invokevirtual 37, 3) := by decide +kernel
theorem dX6_doStep_198 : decode cX6_doStep 198 = .ok (.iload_n 2, 1) := by decide +kernel
theorem dX6_doStep_199 : decode cX6_doStep 199 = .ok (.ireturn, 1) := by decide +kernel
set_option maxRecDepth 20000 in
theorem ggX6_step_X6_doStep : GoodIn wsX6_step wsX6_doStep := goodIn_r _ [6, 7, 1, 8, 9, 10, 5, 11, 12, 13, 14, 15, 16, 17, 18, 19, 20, 21, 22, 23, 24, 25, 26, 27, 28, 29, 30, 31, 32, 33, 34, 35, 36, 37, 38, 39, 40, 41, 42, 43, 44, 45, 46, 47, 48, 49, 50, 51, 52, 53, 54, 55, 56, 57, 58, 59, 60, 61, 62, 63, 64, 65, 66, 67, 68, 69, 70, 71, 72, 73, 74, 75, 76, 77, 78, 79, 80, 81, 82, 83, 84, 85, 86, 87, 88, 89, 90, 91, 92, 93, 94, 95, 96, 97, 98, 99, 100, 101, 102, 103, 104, 105, 106, 107, 108, 109, 110, 111, 112] (by decide +kernel) (by decide +kernel)
set_option maxRecDepth 20000 in
theorem gX6_step_X6_doStep : GoodIn wsX6_step (wsV RX6 116 RX6 yX6_doStep wsX6_doStep) := goodIn_app (goodIn_of _ (by decide +kernel)) ggX6_step_X6_doStep
theorem dX6_step_0 : decode cX6_step 0 = .ok (.aload_n 0, 1) := by decide +kernel
theorem dX6_step_1 : decode cX6_step 1 = .ok (.getfield 7, 3) := by decide +kernel
theorem dX6_step_4 : decode cX6_step 4 = .ok (.sipush 361, 3) := by decide +kernel
theorem dX6_step_7 : decode cX6_step 7 = .ok (.iaload, 1) := by decide +kernel
theorem dX6_step_8 : decode cX6_step 8 = .ok (.iconst 1, 1) := by decide +kernel
theorem dX6_step_9 : decode cX6_step 9 = .ok (.if_icmp .ne 11, 3) := by decide +kernel
theorem dX6_step_12 : decode cX6_step 12 = .ok (.aload_n 0, 1) := by decide +kernel
theorem dX6_step_13 : decode cX6_step 13 = .ok (.iload_n 1, 1) := by decide +kernel
theorem dX6_step_14 : decode cX6_step 14 = .ok (.invokevirtual 116, 3) := by decide +kernel
theorem dX6_step_17 : decode cX6_step 17 = .ok (.goto 5, 3) := by decide +kernel
theorem dX6_step_20 : decode cX6_step 20 = .ok (.bipush (-103), 2) := by decide +kernel
theorem dX6_step_22 : decode cX6_step 22 = .ok (.ireturn, 1) := by decide +kernel
set_option maxRecDepth 20000 in
theorem ggX6_least_X6_enabledAll : GoodIn wsX6_least wsX6_enabledAll := goodIn_r _ [5, 6, 7, 8, 9, 4, 10, 11, 12, 13, 14, 15, 16, 17, 18, 19, 20, 21, 22, 23, 24, 25, 26, 27, 28, 29, 30, 31, 32, 33, 34, 35, 36, 37, 38, 39, 40, 41, 42, 43, 44, 45, 46, 47, 48, 49, 50, 51, 52, 53, 54, 55, 56, 57, 58, 59, 60, 61, 62, 63, 64, 65, 66, 67, 68, 69, 70, 71, 72, 73, 74, 75, 76, 77, 78, 79, 80, 81, 82, 83, 84, 85, 86, 87, 88, 89, 90, 91, 92, 93, 94, 95] (by decide +kernel) (by decide +kernel)
set_option maxRecDepth 20000 in
theorem gX6_least_X6_enabledAll : GoodIn wsX6_least (wsV RX6 100 RX6 yX6_enabledAll wsX6_enabledAll) := goodIn_app (goodIn_of _ (by decide +kernel)) ggX6_least_X6_enabledAll
theorem dX6_least_0 : decode cX6_least 0 = .ok (.aload_n 0, 1) := by decide +kernel
theorem dX6_least_1 : decode cX6_least 1 = .ok (.invokevirtual 100, 3) := by decide +kernel
theorem dX6_least_4 : decode cX6_least 4 = .ok (.istore_n 1, 1) := by decide +kernel
theorem dX6_least_5 : decode cX6_least 5 = .ok (.iload_n 1, 1) := by decide +kernel
theorem dX6_least_6 : decode cX6_least 6 = .ok (.iload_n 1, 1) := by decide +kernel
theorem dX6_least_7 : decode cX6_least 7 = .ok (.ineg, 1) := by decide +kernel
theorem dX6_least_8 : decode cX6_least 8 = .ok (.iand, 1) := by decide +kernel
theorem dX6_least_9 : decode cX6_least 9 = .ok (.ireturn, 1) := by decide +kernel
set_option maxRecDepth 20000 in
theorem ggX6_greatest_X6_enabledAll : GoodIn wsX6_greatest wsX6_enabledAll := goodIn_r _ [5, 6, 7, 8, 9, 4, 10, 11, 12, 13, 14, 15, 16, 17, 18, 19, 20, 21, 22, 23, 24, 25, 26, 27, 28, 29, 30, 31, 32, 33, 34, 35, 36, 37, 38, 39, 40, 41, 42, 43, 44, 45, 46, 47, 48, 49, 50, 51, 52, 53, 54, 55, 56, 57, 58, 59, 60, 61, 62, 63, 64, 65, 66, 67, 68, 69, 70, 71, 72, 73, 74, 75, 76, 77, 78, 79, 80, 81, 82, 83, 84, 85, 86, 87, 88, 89, 90, 91, 92, 93, 94, 95] (by decide +kernel) (by decide +kernel)
set_option maxRecDepth 20000 in
theorem gX6_greatest_X6_enabledAll : GoodIn wsX6_greatest (wsV RX6 100 RX6 yX6_enabledAll wsX6_enabledAll) := goodIn_app (goodIn_of _ (by decide +kernel)) ggX6_greatest_X6_enabledAll
theorem dX6_greatest_0 : decode cX6_greatest 0 = .ok (.aload_n 0, 1) := by decide +kernel
theorem dX6_greatest_1 : decode cX6_greatest 1 = .ok (.invokevirtual 100, 3) := by decide +kernel
theorem dX6_greatest_4 : decode cX6_greatest 4 = .ok (.istore_n 1, 1) := by decide +kernel
theorem dX6_greatest_5 : decode cX6_greatest 5 = .ok (.iconst 0, 1) := by decide +kernel
theorem dX6_greatest_6 : decode cX6_greatest 6 = .ok (.istore_n 2, 1) := by decide +kernel
theorem dX6_greatest_7 : decode cX6_greatest 7 = .ok (.iconst 0, 1) := by decide +kernel
theorem dX6_greatest_8 : decode cX6_greatest 8 = .ok (.istore_n 3, 1) := by decide +kernel
theorem dX6_greatest_9 : decode cX6_greatest 9 = .ok (.iload_n 3, 1) := by decide +kernel
theorem dX6_greatest_10 : decode cX6_greatest 10 = .ok (.bipush 12, 2) := by decide +kernel
theorem dX6_greatest_12 : decode cX6_greatest 12 = .ok (.if_icmp .ge 26, 3) := by decide +kernel
theorem dX6_greatest_15 : decode cX6_greatest 15 = .ok (.iload_n 1, 1) := by decide +kernel
theorem dX6_greatest_16 : decode cX6_greatest 16 = .ok (.iload_n 3, 1) := by decide +kernel
theorem dX6_greatest_17 : decode cX6_greatest 17 = .ok (.ishr, 1) := by decide +kernel
theorem dX6_greatest_18 : decode cX6_greatest 18 = .ok (.iconst 1, 1) := by decide +kernel
theorem dX6_greatest_19 : decode cX6_greatest 19 = .ok (.iand, 1) := by decide +kernel
theorem dX6_greatest_20 : decode cX6_greatest 20 = .ok (.iconst 1, 1) := by decide +kernel
theorem dX6_greatest_21 : decode cX6_greatest 21 = .ok (.if_icmp .ne 9, 3) := by decide +kernel
theorem dX6_greatest_24 : decode cX6_greatest 24 = .ok (.iconst 1, 1) := by decide +kernel
theorem dX6_greatest_25 : decode cX6_greatest 25 = .ok (.iload_n 3, 1) := by decide +kernel
theorem dX6_greatest_26 : decode cX6_greatest 26 = .ok (.ishl, 1) := by decide +kernel
theorem dX6_greatest_27 : decode cX6_greatest 27 = .ok (.goto 4, 3) := by decide +kernel
theorem dX6_greatest_30 : decode cX6_greatest 30 = .ok (.iload_n 2, 1) := by decide +kernel
theorem dX6_greatest_31 : decode cX6_greatest 31 = .ok (.istore_n 2, 1) := by decide +kernel
theorem dX6_greatest_32 : decode cX6_greatest 32 = .ok (.iinc 3 1, 3) := by decide +kernel
theorem dX6_greatest_35 : decode cX6_greatest 35 = .ok (.goto (-26), 3) := by decide +kernel
theorem dX6_greatest_38 : decode cX6_greatest 38 = .ok (.iload_n 2, 1) := by decide +kernel
theorem dX6_greatest_39 : decode cX6_greatest 39 = .ok (.ireturn, 1) := by decide +kernel
set_option maxRecDepth 20000 in
theorem ggX6_stepBy_X6_doStep : GoodIn wsX6_stepBy wsX6_doStep := goodIn_r _ [7, 8, 1, 9, 10, 11, 6, 12, 13, 14, 15, 16, 17, 18, 19, 20, 21, 22, 23, 24, 25, 26, 27, 28, 29, 30, 31, 32, 33, 34, 35, 36, 37, 38, 39, 40, 41, 42, 43, 44, 45, 46, 47, 48, 49, 50, 51, 52, 53, 54, 55, 56, 57, 58, 59, 60, 61, 62, 63, 64, 65, 66, 67, 68, 69, 70, 71, 72, 73, 74, 75, 76, 77, 78, 79, 80, 81, 82, 83, 84, 85, 86, 87, 88, 89, 90, 91, 92, 93, 94, 95, 96, 97, 98, 99, 100, 101, 102, 103, 104, 105, 106, 107, 116, 117, 118, 119, 120, 121] (by decide +kernel) (by decide +kernel)
set_option maxRecDepth 20000 in
theorem gX6_stepBy_X6_doStep : GoodIn wsX6_stepBy (wsV RX6 116 RX6 yX6_doStep wsX6_doStep) := goodIn_app (goodIn_of _ (by decide +kernel)) ggX6_stepBy_X6_doStep
set_option maxRecDepth 20000 in
theorem ggX6_stepBy_X6_least : GoodIn wsX6_stepBy wsX6_least := goodIn_r _ [111, 100, 101, 102, 6, 103, 1, 9, 10, 11, 12, 13, 14, 15, 16, 17, 18, 19, 20, 21, 22, 23, 24, 25, 26, 27, 28, 29, 30, 31, 32, 33, 34, 35, 36, 37, 38, 39, 40, 41, 42, 43, 44, 45, 46, 47, 48, 49, 50, 51, 52, 53, 54, 55, 56, 57, 58, 59, 60, 61, 62, 63, 64, 65, 66, 67, 68, 69, 70, 71, 72, 73, 74, 75, 76, 77, 78, 79, 80, 81, 82, 83, 84, 85, 86, 87, 88, 89, 90, 91, 116, 117, 118, 119, 120, 121] (by decide +kernel) (by decide +kernel)
set_option maxRecDepth 20000 in
theorem gX6_stepBy_X6_least : GoodIn wsX6_stepBy (wsV RX6 119 RX6 yX6_least wsX6_least) := goodIn_app (goodIn_of _ (by decide +kernel)) ggX6_stepBy_X6_least
set_option maxRecDepth 20000 in
theorem ggX6_stepBy_X6_greatest : GoodIn wsX6_stepBy wsX6_greatest := goodIn_r _ [115, 100, 101, 102, 6, 103, 1, 9, 10, 11, 12, 13, 14, 15, 16, 17, 18, 19, 20, 21, 22, 23, 24, 25, 26, 27, 28, 29, 30, 31, 32, 33, 34, 35, 36, 37, 38, 39, 40, 41, 42, 43, 44, 45, 46, 47, 48, 49, 50, 51, 52, 53, 54, 55, 56, 57, 58, 59, 60, 61, 62, 63, 64, 65, 66, 67, 68, 69, 70, 71, 72, 73, 74, 75, 76, 77, 78, 79, 80, 81, 82, 83, 84, 85, 86, 87, 88, 89, 90, 91, 116, 117, 118, 119, 120, 121] (by decide +kernel) (by decide +kernel)
set_option maxRecDepth 20000 in
theorem gX6_stepBy_X6_greatest : GoodIn wsX6_stepBy (wsV RX6 122 RX6 yX6_greatest wsX6_greatest) := goodIn_app (goodIn_of _ (by decide +kernel)) ggX6_stepBy_X6_greatest
theorem dX6_stepBy_0 : decode cX6_stepBy 0 = .ok (.iload_n 1, 1) := by decide +kernel
theorem dX6_stepBy_1 : decode cX6_stepBy 1 = .ok (.ifCond .ne 11, 3) := by decide +kernel
theorem dX6_stepBy_4 : decode cX6_stepBy 4 = .ok (.aload_n 0, 1) := by decide +kernel
theorem dX6_stepBy_5 : decode cX6_stepBy 5 = .ok (.sipush 4095, 3) := by decide +kernel
theorem dX6_stepBy_8 : decode cX6_stepBy 8 = .ok (.invokevirtual 116, 3) := by decide +kernel
theorem dX6_stepBy_11 : decode cX6_stepBy 11 = .ok (.ireturn, 1) := by decide +kernel
theorem dX6_stepBy_12 : decode cX6_stepBy 12 = .ok (.iload_n 1, 1) := by decide +kernel
theorem dX6_stepBy_13 : decode cX6_stepBy 13 = .ok (.iconst 1, 1) := by decide +kernel
theorem dX6_stepBy_14 : decode cX6_stepBy 14 = .ok (.if_icmp .ne 12, 3) := by decide +kernel
theorem dX6_stepBy_17 : decode cX6_stepBy 17 = .ok (.aload_n 0, 1) := by decide +kernel
theorem dX6_stepBy_18 : decode cX6_stepBy 18 = .ok (.aload_n 0, 1) := by decide +kernel
theorem dX6_stepBy_19 : decode cX6_stepBy 19 = .ok (.invokevirtual 119, 3) := by decide +kernel
theorem dX6_stepBy_22 : decode cX6_stepBy 22 = .ok (.invokevirtual 116, 3) := by decide +kernel
theorem dX6_stepBy_25 : decode cX6_stepBy 25 = .ok (.ireturn, 1) := by decide +kernel
theorem dX6_stepBy_26 : decode cX6_stepBy 26 = .ok (.iload_n 1, 1) := by decide +kernel
theorem dX6_stepBy_27 : decode cX6_stepBy 27 = .ok (.iconst 2, 1) := by decide +kernel
theorem dX6_stepBy_28 : decode cX6_stepBy 28 = .ok (.if_icmp .ne 12, 3) := by decide +kernel
theorem dX6_stepBy_31 : decode cX6_stepBy 31 = .ok (.aload_n 0, 1) := by decide +kernel
theorem dX6_stepBy_32 : decode cX6_stepBy 32 = .ok (.aload_n 0, 1) := by decide +kernel
theorem dX6_stepBy_33 : decode cX6_stepBy 33 = .ok (.invokevirtual 122, 3) := by decide +kernel
theorem dX6_stepBy_36 : decode cX6_stepBy 36 = .ok (.invokevirtual 116, 3) := by decide +kernel
theorem dX6_stepBy_39 : decode cX6_stepBy 39 = .ok (.ireturn, 1) := by decide +kernel
theorem dX6_stepBy_40 : decode cX6_stepBy 40 = .ok (.iload_n 1, 1) := by decide +kernel
theorem dX6_stepBy_41 : decode cX6_stepBy 41 = .ok (.iconst 3, 1) := by decide +kernel
theorem dX6_stepBy_42 : decode cX6_stepBy 42 = .ok (.if_icmp .ne 49, 3) := by decide +kernel
theorem dX6_stepBy_45 : decode cX6_stepBy 45 = .ok (.aload_n 0, 1) := by decide +kernel
theorem dX6_stepBy_46 : decode cX6_stepBy 46 = .ok (.getfield 7, 3) := by decide +kernel
theorem dX6_stepBy_49 : decode cX6_stepBy 49 = .ok (.sipush 372, 3) := by decide +kernel
theorem dX6_stepBy_52 : decode cX6_stepBy 52 = .ok (.iaload, 1) := by decide +kernel
theorem dX6_stepBy_53 : decode cX6_stepBy 53 = .ok (.istore_n 2, 1) := by decide +kernel
theorem dX6_stepBy_54 : decode cX6_stepBy 54 = .ok (.aload_n 0, 1) := by decide +kernel
theorem dX6_stepBy_55 : decode cX6_stepBy 55 = .ok (.getfield 7, 3) := by decide +kernel
theorem dX6_stepBy_58 : decode cX6_stepBy 58 = .ok (.sipush 372, 3) := by decide +kernel
theorem dX6_stepBy_61 : decode cX6_stepBy 61 = .ok (.iload_n 2, 1) := by decide +kernel
theorem dX6_stepBy_62 : decode cX6_stepBy 62 = .ok (.iconst 1, 1) := by decide +kernel
theorem dX6_stepBy_63 : decode cX6_stepBy 63 = .ok (.iadd, 1) := by decide +kernel
theorem dX6_stepBy_64 : decode cX6_stepBy 64 = .ok (.aload_n 0, 1) := by decide +kernel
theorem dX6_stepBy_65 : decode cX6_stepBy 65 = .ok (.getfield 7, 3) := by decide +kernel
theorem dX6_stepBy_68 : decode cX6_stepBy 68 = .ok (.sipush 360, 3) := by decide +kernel
theorem dX6_stepBy_71 : decode cX6_stepBy 71 = .ok (.iaload, 1) := by decide +kernel
theorem dX6_stepBy_72 : decode cX6_stepBy 72 = .ok (.if_icmp .ne 7, 3) := by decide +kernel
theorem dX6_stepBy_75 : decode cX6_stepBy 75 = .ok (.iconst 0, 1) := by decide +kernel
theorem dX6_stepBy_76 : decode cX6_stepBy 76 = .ok (.goto 6, 3) := by decide +kernel
theorem dX6_stepBy_79 : decode cX6_stepBy 79 = .ok (.iload_n 2, 1) := by decide +kernel
theorem dX6_stepBy_80 : decode cX6_stepBy 80 = .ok (.iconst 1, 1) := by decide +kernel
theorem dX6_stepBy_81 : decode cX6_stepBy 81 = .ok (.iadd, 1) := by decide +kernel
theorem dX6_stepBy_82 : decode cX6_stepBy 82 = .ok (.iastore, 1) := by decide +kernel
theorem dX6_stepBy_83 : decode cX6_stepBy 83 = .ok (.aload_n 0, 1) := by decide +kernel
theorem dX6_stepBy_84 : decode cX6_stepBy 84 = .ok (.iconst 1, 1) := by decide +kernel
theorem dX6_stepBy_85 : decode cX6_stepBy 85 = .ok (.iload_n 2, 1) := by decide +kernel
theorem dX6_stepBy_86 : decode cX6_stepBy 86 = .ok (.ishl, 1) := by decide +kernel
theorem dX6_stepBy_87 : decode cX6_stepBy 87 = .ok (.invokevirtual 116, 3) := by decide +kernel
theorem dX6_stepBy_90 : decode cX6_stepBy 90 = .ok (.ireturn, 1) := by decide +kernel
theorem dX6_stepBy_91 : decode cX6_stepBy 91 = .ok (.aload_n 0, 1) := by decide +kernel
theorem dX6_stepBy_92 : decode cX6_stepBy 92 = .ok (.getfield 7, 3) := by decide +kernel
theorem dX6_stepBy_95 : decode cX6_stepBy 95 = .ok (.sipush 370, 3) := by decide +kernel
theorem dX6_stepBy_98 : decode cX6_stepBy 98 = .ok (.ldc 125, 2) := by decide +kernel
theorem dX6_stepBy_100 : decode cX6_stepBy 100 = .ok (.aload_n 0, 1) := by decide +kernel
theorem dX6_stepBy_101 : decode cX6_stepBy 101 = .ok (.getfield 7, 3) := by decide +kernel
theorem dX6_stepBy_104 : decode cX6_stepBy 104 = .ok (.sipush 370, 3) := by decide +kernel
theorem dX6_stepBy_107 : decode cX6_stepBy 107 = .ok (.iaload, 1) := by decide +kernel
theorem dX6_stepBy_108 : decode cX6_stepBy 108 = .ok (.imul, 1) := by decide +kernel
theorem dX6_stepBy_109 : decode cX6_stepBy 109 = .ok (.sipush 12345, 3) := by decide +kernel
theorem dX6_stepBy_112 : decode cX6_stepBy 112 = .ok (.iadd, 1) := by decide +kernel
theorem dX6_stepBy_113 : decode cX6_stepBy 113 = .ok (.iastore, 1) := by decide +kernel
theorem dX6_stepBy_114 : decode cX6_stepBy 114 = .ok (.aload_n 0, 1) := by decide +kernel
theorem dX6_stepBy_115 : decode cX6_stepBy 115 = .ok (.aload_n 0, 1) := by decide +kernel
theorem dX6_stepBy_116 : decode cX6_stepBy 116 = .ok (.getfield 7, 3) := by decide +kernel
theorem dX6_stepBy_119 : decode cX6_stepBy 119 = .ok (.sipush 370, 3) := by decide +kernel
theorem dX6_stepBy_122 : decode cX6_stepBy 122 = .ok (.iaload, 1) := by decide +kernel
theorem dX6_stepBy_123 : decode cX6_stepBy 123 = .ok (.bipush 8, 2) := by decide +kernel
theorem dX6_stepBy_125 : decode cX6_stepBy 125 = .ok (.ishr, 1) := by decide +kernel
theorem dX6_stepBy_126 : decode cX6_stepBy 126 = .ok (.sipush 4095, 3) := by decide +kernel
theorem dX6_stepBy_129 : decode cX6_stepBy 129 = .ok (.iand, 1) := by decide +kernel
theorem dX6_stepBy_130 : decode cX6_stepBy 130 = .ok (.invokevirtual 116, 3) := by decide +kernel
theorem dX6_stepBy_133 : decode cX6_stepBy 133 = .ok (.ireturn, 1) := by decide +kernel
set_option maxRecDepth 20000 in
theorem ggX6_run_X6_in : GoodIn wsX6_run wsX6_in := goodIn_r _ [5] (by decide +kernel) (by decide +kernel)
set_option maxRecDepth 20000 in
theorem gX6_run_X6_in : GoodIn wsX6_run (va_wsS RX6 22 yX6_in wsX6_in) := goodIn_app (goodIn_of _ (by decide +kernel)) ggX6_run_X6_in
set_option maxRecDepth 20000 in
theorem ggX6_run_X6_stepBy : GoodIn wsX6_run wsX6_stepBy := goodIn_r _ [9, 1, 10, 11, 12, 13, 4, 14, 15, 16, 17, 18, 19, 20, 21, 22, 23, 2, 3, 5, 24, 25, 26, 27, 28, 29, 30, 31, 32, 33, 34, 35, 36, 37, 38, 39, 40, 41, 42, 43, 44, 45, 46, 47, 48, 49, 50, 51, 52, 53, 54, 55, 56, 57, 58, 59, 60, 61, 62, 63, 64, 65, 66, 67, 68, 69, 70, 71, 72, 73, 74, 75, 76, 77, 78, 79, 80, 81, 82, 83, 84, 85, 86, 87, 88, 89, 90, 91, 92, 93, 94, 95, 96, 97, 98, 99, 100, 101, 102, 103, 104, 105, 106, 107, 108, 109, 110, 111, 112, 113, 114, 115, 116, 117, 118, 119, 120, 121, 122, 123, 124, 125] (by decide +kernel) (by decide +kernel)
set_option maxRecDepth 20000 in
theorem gX6_run_X6_stepBy : GoodIn wsX6_run (wsV RX6 126 RX6 yX6_stepBy wsX6_stepBy) := goodIn_app (goodIn_of _ (by decide +kernel)) ggX6_run_X6_stepBy
theorem dX6_run_0 : decode cX6_run 0 = .ok (.iload_n 1, 1) := by decide +kernel
theorem dX6_run_1 : decode cX6_run 1 = .ok (.iconst 0, 1) := by decide +kernel
theorem dX6_run_2 : decode cX6_run 2 = .ok (.iconst 4, 1) := by decide +kernel
theorem dX6_run_3 : decode cX6_run 3 = .ok (.invokestatic 22, 3) := by decide +kernel
theorem dX6_run_6 : decode cX6_run 6 = .ok (.ifCond .eq 14, 3) := by decide +kernel
theorem dX6_run_9 : decode cX6_run 9 = .ok (.iload_n 2, 1) := by decide +kernel
theorem dX6_run_10 : decode cX6_run 10 = .ok (.iconst 0, 1) := by decide +kernel
theorem dX6_run_11 : decode cX6_run 11 = .ok (.sipush 300, 3) := by decide +kernel
theorem dX6_run_14 : decode cX6_run 14 = .ok (.invokestatic 22, 3) := by decide +kernel
theorem dX6_run_17 : decode cX6_run 17 = .ok (.ifCond .ne 6, 3) := by decide +kernel
theorem dX6_run_20 : decode cX6_run 20 = .ok (.bipush (-102), 2) := by decide +kernel
theorem dX6_run_22 : decode cX6_run 22 = .ok (.ireturn, 1) := by decide +kernel
theorem dX6_run_23 : decode cX6_run 23 = .ok (.aload_n 0, 1) := by decide +kernel
theorem dX6_run_24 : decode cX6_run 24 = .ok (.getfield 7, 3) := by decide +kernel
theorem dX6_run_27 : decode cX6_run 27 = .ok (.sipush 361, 3) := by decide +kernel
theorem dX6_run_30 : decode cX6_run 30 = .ok (.iaload, 1) := by decide +kernel
theorem dX6_run_31 : decode cX6_run 31 = .ok (.ifCond .ne 6, 3) := by decide +kernel
theorem dX6_run_34 : decode cX6_run 34 = .ok (.bipush (-103), 2) := by decide +kernel
theorem dX6_run_36 : decode cX6_run 36 = .ok (.ireturn, 1) := by decide +kernel
theorem dX6_run_37 : decode cX6_run 37 = .ok (.iconst 0, 1) := by decide +kernel
theorem dX6_run_38 : decode cX6_run 38 = .ok (.istore_n 3, 1) := by decide +kernel
theorem dX6_run_39 : decode cX6_run 39 = .ok (.iconst 0, 1) := by decide +kernel
theorem dX6_run_40 : decode cX6_run 40 = .ok (.istore 4, 2) := by decide +kernel
theorem dX6_run_42 : decode cX6_run 42 = .ok (.iload 4, 2) := by decide +kernel
theorem dX6_run_44 : decode cX6_run 44 = .ok (.iload_n 2, 1) := by decide +kernel
theorem dX6_run_45 : decode cX6_run 45 = .ok (.if_icmp .ge 17, 3) := by decide +kernel
theorem dX6_run_48 : decode cX6_run 48 = .ok (.iload_n 3, 1) := by decide +kernel
theorem dX6_run_49 : decode cX6_run 49 = .ok (.aload_n 0, 1) := by decide +kernel
theorem dX6_run_50 : decode cX6_run 50 = .ok (.iload_n 1, 1) := by decide +kernel
theorem dX6_run_51 : decode cX6_run 51 = .ok (.invokevirtual 126, 3) := by decide +kernel
theorem dX6_run_54 : decode cX6_run 54 = .ok (.iadd, 1) := by decide +kernel
theorem dX6_run_55 : decode cX6_run 55 = .ok (.istore_n 3, 1) := by decide +kernel
theorem dX6_run_56 : decode cX6_run 56 = .ok (.iinc 4 1, 3) := by decide +kernel
theorem dX6_run_59 : decode cX6_run 59 = .ok (.goto (-17), 3) := by decide +kernel
theorem dX6_run_62 : decode cX6_run 62 = .ok (.iload_n 3, 1) := by decide +kernel
theorem dX6_run_63 : decode cX6_run 63 = .ok (.ireturn, 1) := by decide +kernel
theorem dX6_dice_0 : decode cX6_dice 0 = .ok (.aload_n 0, 1) := by decide +kernel
theorem dX6_dice_1 : decode cX6_dice 1 = .ok (.getfield 7, 3) := by decide +kernel
theorem dX6_dice_4 : decode cX6_dice 4 = .ok (.sipush 370, 3) := by decide +kernel
theorem dX6_dice_7 : decode cX6_dice 7 = .ok (.iaload, 1) := by decide +kernel
theorem dX6_dice_8 : decode cX6_dice 8 = .ok (.istore_n 2, 1) := by decide +kernel
theorem dX6_dice_9 : decode cX6_dice 9 = .ok (.aload_n 0, 1) := by decide +kernel
theorem dX6_dice_10 : decode cX6_dice 10 = .ok (.getfield 7, 3) := by decide +kernel
theorem dX6_dice_13 : decode cX6_dice 13 = .ok (.sipush 370, 3) := by decide +kernel
theorem dX6_dice_16 : decode cX6_dice 16 = .ok (.iload_n 1, 1) := by decide +kernel
theorem dX6_dice_17 : decode cX6_dice 17 = .ok (.iastore, 1) := by decide +kernel
theorem dX6_dice_18 : decode cX6_dice 18 = .ok (.iload_n 2, 1) := by decide +kernel
theorem dX6_dice_19 : decode cX6_dice 19 = .ok (.ireturn, 1) := by decide +kernel
set_option maxRecDepth 20000 in
theorem ggX6_settle_X6_in : GoodIn wsX6_settle wsX6_in := goodIn_r _ [5] (by decide +kernel) (by decide +kernel)
set_option maxRecDepth 20000 in
theorem gX6_settle_X6_in : GoodIn wsX6_settle (va_wsS RX6 22 yX6_in wsX6_in) := goodIn_app (goodIn_of _ (by decide +kernel)) ggX6_settle_X6_in
set_option maxRecDepth 20000 in
theorem ggX6_settle_X6_isRest : GoodIn wsX6_settle wsX6_isRest := goodIn_r _ [9, 1, 10, 11, 12, 13, 4, 14, 15, 16, 17, 18, 19, 20, 21, 22, 2, 3, 5, 23, 24, 25, 26, 27, 28, 29, 30, 31, 32, 33, 34, 35, 36, 37, 38, 39, 40, 41, 42, 43, 44, 45, 46, 47, 48, 49, 50, 51, 52, 53, 54, 55, 56, 57, 58, 59, 60, 61, 62, 63, 64, 65, 66, 133, 134, 135, 136, 137, 138] (by decide +kernel) (by decide +kernel)
set_option maxRecDepth 20000 in
theorem gX6_settle_X6_isRest : GoodIn wsX6_settle (wsV RX6 129 RX6 yX6_isRest wsX6_isRest) := goodIn_app (goodIn_of _ (by decide +kernel)) ggX6_settle_X6_isRest
set_option maxRecDepth 20000 in
theorem ggX6_settle_X6_stepBy : GoodIn wsX6_settle wsX6_stepBy := goodIn_r _ [70, 1, 71, 72, 73, 74, 4, 75, 76, 77, 78, 79, 80, 23, 24, 25, 26, 2, 3, 5, 27, 28, 29, 30, 15, 16, 17, 18, 19, 20, 21, 22, 31, 32, 33, 34, 81, 82, 83, 84, 85, 86, 87, 88, 89, 90, 91, 92, 93, 94, 95, 96, 97, 98, 99, 100, 43, 44, 45, 46, 47, 48, 49, 50, 101, 102, 103, 104, 105, 106, 107, 108, 39, 40, 41, 42, 51, 52, 53, 54, 55, 56, 57, 58, 59, 60, 61, 62, 63, 64, 65, 66, 109, 110, 111, 112, 113, 114, 115, 116, 117, 118, 119, 120, 121, 122, 123, 124, 125, 126, 127, 128, 129, 130, 131, 132, 133, 134, 135, 136, 137, 138] (by decide +kernel) (by decide +kernel)
set_option maxRecDepth 20000 in
theorem gX6_settle_X6_stepBy : GoodIn wsX6_settle (wsV RX6 126 RX6 yX6_stepBy wsX6_stepBy) := goodIn_app (goodIn_of _ (by decide +kernel)) ggX6_settle_X6_stepBy
theorem dX6_settle_0 : decode cX6_settle 0 = .ok (.iload_n 1, 1) := by decide +kernel
theorem dX6_settle_1 : decode cX6_settle 1 = .ok (.iconst 0, 1) := by decide +kernel
theorem dX6_settle_2 : decode cX6_settle 2 = .ok (.iconst 4, 1) := by decide +kernel
theorem dX6_settle_3 : decode cX6_settle 3 = .ok (.invokestatic 22, 3) := by decide +kernel
theorem dX6_settle_6 : decode cX6_settle 6 = .ok (.ifCond .eq 14, 3) := by decide +kernel
theorem dX6_settle_9 : decode cX6_settle 9 = .ok (.iload_n 2, 1) := by decide +kernel
theorem dX6_settle_10 : decode cX6_settle 10 = .ok (.iconst 0, 1) := by decide +kernel
theorem dX6_settle_11 : decode cX6_settle 11 = .ok (.sipush 2000, 3) := by decide +kernel
theorem dX6_settle_14 : decode cX6_settle 14 = .ok (.invokestatic 22, 3) := by decide +kernel
theorem dX6_settle_17 : decode cX6_settle 17 = .ok (.ifCond .ne 6, 3) := by decide +kernel
theorem dX6_settle_20 : decode cX6_settle 20 = .ok (.bipush (-102), 2) := by decide +kernel
theorem dX6_settle_22 : decode cX6_settle 22 = .ok (.ireturn, 1) := by decide +kernel
theorem dX6_settle_23 : decode cX6_settle 23 = .ok (.aload_n 0, 1) := by decide +kernel
theorem dX6_settle_24 : decode cX6_settle 24 = .ok (.getfield 7, 3) := by decide +kernel
theorem dX6_settle_27 : decode cX6_settle 27 = .ok (.sipush 361, 3) := by decide +kernel
theorem dX6_settle_30 : decode cX6_settle 30 = .ok (.iaload, 1) := by decide +kernel
theorem dX6_settle_31 : decode cX6_settle 31 = .ok (.ifCond .ne 6, 3) := by decide +kernel
theorem dX6_settle_34 : decode cX6_settle 34 = .ok (.bipush (-103), 2) := by decide +kernel
theorem dX6_settle_36 : decode cX6_settle 36 = .ok (.ireturn, 1) := by decide +kernel
theorem dX6_settle_37 : decode cX6_settle 37 = .ok (.iconst 0, 1) := by decide +kernel
theorem dX6_settle_38 : decode cX6_settle 38 = .ok (.istore_n 3, 1) := by decide +kernel
theorem dX6_settle_39 : decode cX6_settle 39 = .ok (.aload_n 0, 1) := by decide +kernel
theorem dX6_settle_40 : decode cX6_settle 40 = .ok (.invokevirtual 129, 3) := by decide +kernel
theorem dX6_settle_43 : decode cX6_settle 43 = .ok (.istore 4, 2) := by decide +kernel
theorem dX6_settle_45 : decode cX6_settle 45 = .ok (.iload 4, 2) := by decide +kernel
theorem dX6_settle_47 : decode cX6_settle 47 = .ok (.ifCond .ne 40, 3) := by decide +kernel
theorem dX6_settle_50 : decode cX6_settle 50 = .ok (.iload_n 3, 1) := by decide +kernel
theorem dX6_settle_51 : decode cX6_settle 51 = .ok (.iload_n 2, 1) := by decide +kernel
theorem dX6_settle_52 : decode cX6_settle 52 = .ok (.if_icmp .ge 35, 3) := by decide +kernel
theorem dX6_settle_55 : decode cX6_settle 55 = .ok (.aload_n 0, 1) := by decide +kernel
theorem dX6_settle_56 : decode cX6_settle 56 = .ok (.iload_n 1, 1) := by decide +kernel
theorem dX6_settle_57 : decode cX6_settle 57 = .ok (.invokevirtual 126, 3) := by decide +kernel
theorem dX6_settle_60 : decode cX6_settle 60 = .ok (.istore 5, 2) := by decide +kernel
theorem dX6_settle_62 : decode cX6_settle 62 = .ok (.iinc 3 1, 3) := by decide +kernel
theorem dX6_settle_65 : decode cX6_settle 65 = .ok (.iload 5, 2) := by decide +kernel
theorem dX6_settle_67 : decode cX6_settle 67 = .ok (.ifCond .le 14, 3) := by decide +kernel
theorem dX6_settle_70 : decode cX6_settle 70 = .ok (.aload_n 0, 1) := by decide +kernel
theorem dX6_settle_71 : decode cX6_settle 71 = .ok (.invokevirtual 129, 3) := by decide +kernel
theorem dX6_settle_74 : decode cX6_settle 74 = .ok (.ifCond .eq 7, 3) := by decide +kernel
theorem dX6_settle_77 : decode cX6_settle 77 = .ok (.iconst 1, 1) := by decide +kernel
theorem dX6_settle_78 : decode cX6_settle 78 = .ok (.goto 4, 3) := by decide +kernel
theorem dX6_settle_81 : decode cX6_settle 81 = .ok (.iconst 0, 1) := by decide +kernel
theorem dX6_settle_82 : decode cX6_settle 82 = .ok (.istore 4, 2) := by decide +kernel
theorem dX6_settle_84 : decode cX6_settle 84 = .ok (.goto (-39), 3) := by decide +kernel
theorem dX6_settle_87 : decode cX6_settle 87 = .ok (.iload 4, 2) := by decide +kernel
theorem dX6_settle_89 : decode cX6_settle 89 = .ok (.ifCond .eq 7, 3) := by decide +kernel
theorem dX6_settle_92 : decode cX6_settle 92 = .ok (.iload_n 3, 1) := by decide +kernel
theorem dX6_settle_93 : decode cX6_settle 93 = .ok (.goto 6, 3) := by decide +kernel
theorem dX6_settle_96 : decode cX6_settle 96 = .ok (.iconst (-1), 1) := by decide +kernel
theorem dX6_settle_97 : decode cX6_settle 97 = .ok (.iload_n 2, 1) := by decide +kernel
theorem dX6_settle_98 : decode cX6_settle 98 = .ok (.isub, 1) := by decide +kernel
theorem dX6_settle_99 : decode cX6_settle 99 = .ok (.ireturn, 1) := by decide +kernel
set_option maxRecDepth 20000 in
theorem ggX6_isRest_X6_measure : GoodIn wsX6_isRest wsX6_measure := goodIn_r _ [7, 2, 1, 8, 9, 10, 6, 11, 12, 13, 14, 15, 16, 17, 18, 63, 64, 65, 66, 67, 68] (by decide +kernel) (by decide +kernel)
set_option maxRecDepth 20000 in
theorem gX6_isRest_X6_measure : GoodIn wsX6_isRest (wsV RX6 34 RX6 yX6_measure wsX6_measure) := goodIn_app (goodIn_of _ (by decide +kernel)) ggX6_isRest_X6_measure
set_option maxRecDepth 20000 in
theorem ggX6_isRest_X6_isLink : GoodIn wsX6_isRest wsX6_isLink := goodIn_r _ [11, 1, 12, 13, 14, 6, 15, 16, 17, 18, 63, 64, 65, 66, 67, 68] (by decide +kernel) (by decide +kernel)
set_option maxRecDepth 20000 in
theorem gX6_isRest_X6_isLink : GoodIn wsX6_isRest (wsV RX6 30 RX6 yX6_isLink wsX6_isLink) := goodIn_app (goodIn_of _ (by decide +kernel)) ggX6_isRest_X6_isLink
set_option maxRecDepth 20000 in
theorem ggX6_isRest_X6_isSane : GoodIn wsX6_isRest wsX6_isSane := goodIn_r _ [22, 1, 16, 17, 6, 18, 23, 24, 25, 26, 8, 9, 10, 11, 12, 13, 14, 15, 27, 28, 29, 30, 63, 64, 65, 66, 67, 68] (by decide +kernel) (by decide +kernel)
set_option maxRecDepth 20000 in
theorem gX6_isRest_X6_isSane : GoodIn wsX6_isRest (wsV RX6 85 RX6 yX6_isSane wsX6_isSane) := goodIn_app (goodIn_of _ (by decide +kernel)) ggX6_isRest_X6_isSane
set_option maxRecDepth 20000 in
theorem ggX6_isRest_X6_rights : GoodIn wsX6_isRest wsX6_rights := goodIn_r _ [34, 1, 35, 36, 37, 6, 38, 39, 40, 41, 42, 8, 9, 10, 11, 12, 13, 14, 15, 16, 17, 18, 43, 44, 45, 46, 23, 24, 25, 26, 47, 48, 49, 50, 51, 52, 53, 54, 27, 28, 29, 30, 55, 56, 57, 58, 59, 60, 61, 62, 63, 64, 65, 66, 67, 68] (by decide +kernel) (by decide +kernel)
set_option maxRecDepth 20000 in
theorem gX6_isRest_X6_rights : GoodIn wsX6_isRest (wsV RX6 133 RX6 yX6_rights wsX6_rights) := goodIn_app (goodIn_of _ (by decide +kernel)) ggX6_isRest_X6_rights
theorem dX6_isRest_0 : decode cX6_isRest 0 = .ok (.aload_n 0, 1) := by decide +kernel
theorem dX6_isRest_1 : decode cX6_isRest 1 = .ok (.getfield 7, 3) := by decide +kernel
theorem dX6_isRest_4 : decode cX6_isRest 4 = .ok (.sipush 361, 3) := by decide +kernel
theorem dX6_isRest_7 : decode cX6_isRest 7 = .ok (.iaload, 1) := by decide +kernel
theorem dX6_isRest_8 : decode cX6_isRest 8 = .ok (.ifCond .ne 5, 3) := by decide +kernel
theorem dX6_isRest_11 : decode cX6_isRest 11 = .ok (.iconst 0, 1) := by decide +kernel
theorem dX6_isRest_12 : decode cX6_isRest 12 = .ok (.ireturn, 1) := by decide +kernel
theorem dX6_isRest_13 : decode cX6_isRest 13 = .ok (.aload_n 0, 1) := by decide +kernel
theorem dX6_isRest_14 : decode cX6_isRest 14 = .ok (.invokevirtual 34, 3) := by decide +kernel
theorem dX6_isRest_17 : decode cX6_isRest 17 = .ok (.iconst 1, 1) := by decide +kernel
theorem dX6_isRest_18 : decode cX6_isRest 18 = .ok (.istore_n 1, 1) := by decide +kernel
theorem dX6_isRest_19 : decode cX6_isRest 19 = .ok (.iconst 0, 1) := by decide +kernel
theorem dX6_isRest_20 : decode cX6_isRest 20 = .ok (.istore_n 2, 1) := by decide +kernel
theorem dX6_isRest_21 : decode cX6_isRest 21 = .ok (.iload_n 2, 1) := by decide +kernel
theorem dX6_isRest_22 : decode cX6_isRest 22 = .ok (.aload_n 0, 1) := by decide +kernel
theorem dX6_isRest_23 : decode cX6_isRest 23 = .ok (.getfield 7, 3) := by decide +kernel
theorem dX6_isRest_26 : decode cX6_isRest 26 = .ok (.sipush 360, 3) := by decide +kernel
theorem dX6_isRest_29 : decode cX6_isRest 29 = .ok (.iaload, 1) := by decide +kernel
theorem dX6_isRest_30 : decode cX6_isRest 30 = .ok (.if_icmp .ge 116, 3) := by decide +kernel
theorem dX6_isRest_33 : decode cX6_isRest 33 = .ok (.iconst (-1), 1) := by decide +kernel
theorem dX6_isRest_34 : decode cX6_isRest 34 = .ok (.istore_n 3, 1) := by decide +kernel
theorem dX6_isRest_35 : decode cX6_isRest 35 = .ok (.aload_n 0, 1) := by decide +kernel
theorem dX6_isRest_36 : decode cX6_isRest 36 = .ok (.getfield 7, 3) := by decide +kernel
theorem dX6_isRest_39 : decode cX6_isRest 39 = .ok (.sipush 360, 3) := by decide +kernel
theorem dX6_isRest_42 : decode cX6_isRest 42 = .ok (.iaload, 1) := by decide +kernel
theorem dX6_isRest_43 : decode cX6_isRest 43 = .ok (.iconst 1, 1) := by decide +kernel
theorem dX6_isRest_44 : decode cX6_isRest 44 = .ok (.isub, 1) := by decide +kernel
theorem dX6_isRest_45 : decode cX6_isRest 45 = .ok (.istore 4, 2) := by decide +kernel
theorem dX6_isRest_47 : decode cX6_isRest 47 = .ok (.iload 4, 2) := by decide +kernel
theorem dX6_isRest_49 : decode cX6_isRest 49 = .ok (.ifCond .lt 42, 3) := by decide +kernel
theorem dX6_isRest_52 : decode cX6_isRest 52 = .ok (.aload_n 0, 1) := by decide +kernel
theorem dX6_isRest_53 : decode cX6_isRest 53 = .ok (.iload_n 2, 1) := by decide +kernel
theorem dX6_isRest_54 : decode cX6_isRest 54 = .ok (.iload 4, 2) := by decide +kernel
theorem dX6_isRest_56 : decode cX6_isRest 56 = .ok (.invokevirtual 30, 3) := by decide +kernel
theorem dX6_isRest_59 : decode cX6_isRest 59 = .ok (.ifCond .eq 24, 3) := by decide +kernel
theorem dX6_isRest_62 : decode cX6_isRest 62 = .ok (.aload_n 0, 1) := by decide +kernel
theorem dX6_isRest_63 : decode cX6_isRest 63 = .ok (.getfield 19, 3) := by decide +kernel
theorem dX6_isRest_66 : decode cX6_isRest 66 = .ok (.iload 4, 2) := by decide +kernel
theorem dX6_isRest_68 : decode cX6_isRest 68 = .ok (.iaload, 1) := by decide +kernel
theorem dX6_isRest_69 : decode cX6_isRest 69 = .ok (.aload_n 0, 1) := by decide +kernel
theorem dX6_isRest_70 : decode cX6_isRest 70 = .ok (.getfield 19, 3) := by decide +kernel
theorem dX6_isRest_73 : decode cX6_isRest 73 = .ok (.iload_n 2, 1) := by decide +kernel
theorem dX6_isRest_74 : decode cX6_isRest 74 = .ok (.iaload, 1) := by decide +kernel
theorem dX6_isRest_75 : decode cX6_isRest 75 = .ok (.if_icmp .ge 8, 3) := by decide +kernel
theorem dX6_isRest_78 : decode cX6_isRest 78 = .ok (.iload 4, 2) := by decide +kernel
theorem dX6_isRest_80 : decode cX6_isRest 80 = .ok (.goto 4, 3) := by decide +kernel
theorem dX6_isRest_83 : decode cX6_isRest 83 = .ok (.iload_n 3, 1) := by decide +kernel
theorem dX6_isRest_84 : decode cX6_isRest 84 = .ok (.istore_n 3, 1) := by decide +kernel
theorem dX6_isRest_85 : decode cX6_isRest 85 = .ok (.iinc 4 (-1), 3) := by decide +kernel
theorem dX6_isRest_88 : decode cX6_isRest 88 = .ok (.goto (-41), 3) := by decide +kernel
theorem dX6_isRest_91 : decode cX6_isRest 91 = .ok (.iload_n 1, 1) := by decide +kernel
theorem dX6_isRest_92 : decode cX6_isRest 92 = .ok (.ifCond .eq 46, 3) := by decide +kernel
theorem dX6_isRest_95 : decode cX6_isRest 95 = .ok (.aload_n 0, 1) := by decide +kernel
theorem dX6_isRest_96 : decode cX6_isRest 96 = .ok (.iload_n 2, 1) := by decide +kernel
theorem dX6_isRest_97 : decode cX6_isRest 97 = .ok (.invokevirtual 85, 3) := by decide +kernel
theorem dX6_isRest_100 : decode cX6_isRest 100 = .ok (.ifCond .eq 38, 3) := by decide +kernel
theorem dX6_isRest_103 : decode cX6_isRest 103 = .ok (.aload_n 0, 1) := by decide +kernel
theorem dX6_isRest_104 : decode cX6_isRest 104 = .ok (.getfield 7, 3) := by decide +kernel
theorem dX6_isRest_107 : decode cX6_isRest 107 = .ok (.bipush 12, 2) := by decide +kernel
theorem dX6_isRest_109 : decode cX6_isRest 109 = .ok (.iload_n 2, 1) := by decide +kernel
theorem dX6_isRest_110 : decode cX6_isRest 110 = .ok (.iadd, 1) := by decide +kernel
theorem dX6_isRest_111 : decode cX6_isRest 111 = .ok (.iaload, 1) := by decide +kernel
theorem dX6_isRest_112 : decode cX6_isRest 112 = .ok (.aload_n 0, 1) := by decide +kernel
theorem dX6_isRest_113 : decode cX6_isRest 113 = .ok (.getfield 19, 3) := by decide +kernel
theorem dX6_isRest_116 : decode cX6_isRest 116 = .ok (.iload_n 2, 1) := by decide +kernel
theorem dX6_isRest_117 : decode cX6_isRest 117 = .ok (.iaload, 1) := by decide +kernel
theorem dX6_isRest_118 : decode cX6_isRest 118 = .ok (.if_icmp .ne 20, 3) := by decide +kernel
theorem dX6_isRest_121 : decode cX6_isRest 121 = .ok (.aload_n 0, 1) := by decide +kernel
theorem dX6_isRest_122 : decode cX6_isRest 122 = .ok (.getfield 7, 3) := by decide +kernel
theorem dX6_isRest_125 : decode cX6_isRest 125 = .ok (.bipush 24, 2) := by decide +kernel
theorem dX6_isRest_127 : decode cX6_isRest 127 = .ok (.iload_n 2, 1) := by decide +kernel
theorem dX6_isRest_128 : decode cX6_isRest 128 = .ok (.iadd, 1) := by decide +kernel
theorem dX6_isRest_129 : decode cX6_isRest 129 = .ok (.iaload, 1) := by decide +kernel
theorem dX6_isRest_130 : decode cX6_isRest 130 = .ok (.iload_n 3, 1) := by decide +kernel
theorem dX6_isRest_131 : decode cX6_isRest 131 = .ok (.if_icmp .ne 7, 3) := by decide +kernel
theorem dX6_isRest_134 : decode cX6_isRest 134 = .ok (.iconst 1, 1) := by decide +kernel
theorem dX6_isRest_135 : decode cX6_isRest 135 = .ok (.goto 4, 3) := by decide +kernel
theorem dX6_isRest_138 : decode cX6_isRest 138 = .ok (.iconst 0, 1) := by decide +kernel
theorem dX6_isRest_139 : decode cX6_isRest 139 = .ok (.istore_n 1, 1) := by decide +kernel
theorem dX6_isRest_140 : decode cX6_isRest 140 = .ok (.iinc 2 1, 3) := by decide +kernel
theorem dX6_isRest_143 : decode cX6_isRest 143 = .ok (.goto (-122), 3) := by decide +kernel
theorem dX6_isRest_146 : decode cX6_isRest 146 = .ok (.iload_n 1, 1) := by decide +kernel
theorem dX6_isRest_147 : decode cX6_isRest 147 = .ok (.ifCond .eq 15, 3) := by decide +kernel
theorem dX6_isRest_150 : decode cX6_isRest 150 = .ok (.aload_n 0, 1) := by decide +kernel
theorem dX6_isRest_151 : decode cX6_isRest 151 = .ok (.invokevirtual 133, 3) := by decide +kernel
theorem dX6_isRest_154 : decode cX6_isRest 154 = .ok (.iconst 1, 1) := by decide +kernel
theorem dX6_isRest_155 : decode cX6_isRest 155 = .ok (.if_icmp .ne 7, 3) := by decide +kernel
theorem dX6_isRest_158 : decode cX6_isRest 158 = .ok (.iconst 1, 1) := by decide +kernel
theorem dX6_isRest_159 : decode cX6_isRest 159 = .ok (.goto 4, 3) := by decide +kernel
theorem dX6_isRest_162 : decode cX6_isRest 162 = .ok (.iconst 0, 1) := by decide +kernel
theorem dX6_isRest_163 : decode cX6_isRest 163 = .ok (.ireturn, 1) := by decide +kernel
set_option maxRecDepth 20000 in
theorem ggX6_rest_X6_isRest : GoodIn wsX6_rest wsX6_isRest := goodIn_r _ [5, 6, 7, 8, 9, 10, 4, 11, 12, 13, 14, 15, 16, 17, 18, 19, 20, 21, 22, 23, 24, 25, 26, 27, 28, 29, 30, 31, 32, 33, 34, 35, 36, 37, 38, 39, 40, 41, 42, 43, 44, 45, 46, 47, 48, 49, 50, 51, 52, 53, 54, 55, 56, 57, 58, 59, 60, 61, 62, 63, 64, 65, 66, 67, 68, 69, 70, 71, 72] (by decide +kernel) (by decide +kernel)
set_option maxRecDepth 20000 in
theorem gX6_rest_X6_isRest : GoodIn wsX6_rest (wsV RX6 129 RX6 yX6_isRest wsX6_isRest) := goodIn_app (goodIn_of _ (by decide +kernel)) ggX6_rest_X6_isRest
theorem dX6_rest_0 : decode cX6_rest 0 = .ok (.aload_n 0, 1) := by decide +kernel
theorem dX6_rest_1 : decode cX6_rest 1 = .ok (.invokevirtual 129, 3) := by decide +kernel
theorem dX6_rest_4 : decode cX6_rest 4 = .ok (.ifCond .eq 7, 3) := by decide +kernel
theorem dX6_rest_7 : decode cX6_rest 7 = .ok (.iconst 1, 1) := by decide +kernel
theorem dX6_rest_8 : decode cX6_rest 8 = .ok (.goto 4, 3) := by decide +kernel
theorem dX6_rest_11 : decode cX6_rest 11 = .ok (.iconst 0, 1) := by decide +kernel
theorem dX6_rest_12 : decode cX6_rest 12 = .ok (.ireturn, 1) := by decide +kernel
set_option maxRecDepth 20000 in
theorem ggX6_distance_X6_isNode : GoodIn wsX6_distance wsX6_isNode := goodIn_r _ [6, 7, 8, 9, 5, 10, 19, 20, 21, 22, 23, 24] (by decide +kernel) (by decide +kernel)
set_option maxRecDepth 20000 in
theorem gX6_distance_X6_isNode : GoodIn wsX6_distance (wsV RX6 26 RX6 yX6_isNode wsX6_isNode) := goodIn_app (goodIn_of _ (by decide +kernel)) ggX6_distance_X6_isNode
set_option maxRecDepth 20000 in
theorem ggX6_distance_X6_measure : GoodIn wsX6_distance wsX6_measure := goodIn_r _ [14, 1, 7, 15, 16, 17, 5, 18, 2, 3, 4, 6, 8, 9, 10, 19, 20, 21, 22, 23, 24] (by decide +kernel) (by decide +kernel)
set_option maxRecDepth 20000 in
theorem gX6_distance_X6_measure : GoodIn wsX6_distance (wsV RX6 34 RX6 yX6_measure wsX6_measure) := goodIn_app (goodIn_of _ (by decide +kernel)) ggX6_distance_X6_measure
theorem dX6_distance_0 : decode cX6_distance 0 = .ok (.aload_n 0, 1) := by decide +kernel
theorem dX6_distance_1 : decode cX6_distance 1 = .ok (.iload_n 1, 1) := by decide +kernel
theorem dX6_distance_2 : decode cX6_distance 2 = .ok (.invokevirtual 26, 3) := by decide +kernel
theorem dX6_distance_5 : decode cX6_distance 5 = .ok (.ifCond .ne 6, 3) := by decide +kernel
theorem dX6_distance_8 : decode cX6_distance 8 = .ok (.bipush (-101), 2) := by decide +kernel
theorem dX6_distance_10 : decode cX6_distance 10 = .ok (.ireturn, 1) := by decide +kernel
theorem dX6_distance_11 : decode cX6_distance 11 = .ok (.aload_n 0, 1) := by decide +kernel
theorem dX6_distance_12 : decode cX6_distance 12 = .ok (.invokevirtual 34, 3) := by decide +kernel
theorem dX6_distance_15 : decode cX6_distance 15 = .ok (.aload_n 0, 1) := by decide +kernel
theorem dX6_distance_16 : decode cX6_distance 16 = .ok (.getfield 19, 3) := by decide +kernel
theorem dX6_distance_19 : decode cX6_distance 19 = .ok (.iload_n 1, 1) := by decide +kernel
theorem dX6_distance_20 : decode cX6_distance 20 = .ok (.iaload, 1) := by decide +kernel
theorem dX6_distance_21 : decode cX6_distance 21 = .ok (.ireturn, 1) := by decide +kernel
theorem dX6_wave_0 : decode cX6_wave 0 = .ok (.aload_n 0, 1) := by decide +kernel
theorem dX6_wave_1 : decode cX6_wave 1 = .ok (.getfield 7, 3) := by decide +kernel
theorem dX6_wave_4 : decode cX6_wave 4 = .ok (.sipush 371, 3) := by decide +kernel
theorem dX6_wave_7 : decode cX6_wave 7 = .ok (.aload_n 0, 1) := by decide +kernel
theorem dX6_wave_8 : decode cX6_wave 8 = .ok (.getfield 7, 3) := by decide +kernel
theorem dX6_wave_11 : decode cX6_wave 11 = .ok (.sipush 369, 3) := by decide +kernel
theorem dX6_wave_14 : decode cX6_wave 14 = .ok (.iaload, 1) := by decide +kernel
theorem dX6_wave_15 : decode cX6_wave 15 = .ok (.iastore, 1) := by decide +kernel
theorem dX6_wave_16 : decode cX6_wave 16 = .ok (.aload_n 0, 1) := by decide +kernel
theorem dX6_wave_17 : decode cX6_wave 17 = .ok (.getfield 7, 3) := by decide +kernel
theorem dX6_wave_20 : decode cX6_wave 20 = .ok (.sipush 368, 3) := by decide +kernel
theorem dX6_wave_23 : decode cX6_wave 23 = .ok (.iaload, 1) := by decide +kernel
theorem dX6_wave_24 : decode cX6_wave 24 = .ok (.ireturn, 1) := by decide +kernel
set_option maxRecDepth 20000 in
theorem ggX6_entries_X6_isNode : GoodIn wsX6_entries wsX6_isNode := goodIn_r _ [6, 1, 7, 8, 5, 9, 10, 11, 12, 13, 14, 15] (by decide +kernel) (by decide +kernel)
set_option maxRecDepth 20000 in
theorem gX6_entries_X6_isNode : GoodIn wsX6_entries (wsV RX6 26 RX6 yX6_isNode wsX6_isNode) := goodIn_app (goodIn_of _ (by decide +kernel)) ggX6_entries_X6_isNode
theorem dX6_entries_0 : decode cX6_entries 0 = .ok (.aload_n 0, 1) := by decide +kernel
theorem dX6_entries_1 : decode cX6_entries 1 = .ok (.iload_n 1, 1) := by decide +kernel
theorem dX6_entries_2 : decode cX6_entries 2 = .ok (.invokevirtual 26, 3) := by decide +kernel
theorem dX6_entries_5 : decode cX6_entries 5 = .ok (.ifCond .eq 15, 3) := by decide +kernel
theorem dX6_entries_8 : decode cX6_entries 8 = .ok (.aload_n 0, 1) := by decide +kernel
theorem dX6_entries_9 : decode cX6_entries 9 = .ok (.getfield 7, 3) := by decide +kernel
theorem dX6_entries_12 : decode cX6_entries 12 = .ok (.bipush 60, 2) := by decide +kernel
theorem dX6_entries_14 : decode cX6_entries 14 = .ok (.iload_n 1, 1) := by decide +kernel
theorem dX6_entries_15 : decode cX6_entries 15 = .ok (.iadd, 1) := by decide +kernel
theorem dX6_entries_16 : decode cX6_entries 16 = .ok (.iaload, 1) := by decide +kernel
theorem dX6_entries_17 : decode cX6_entries 17 = .ok (.goto 5, 3) := by decide +kernel
theorem dX6_entries_20 : decode cX6_entries 20 = .ok (.bipush (-101), 2) := by decide +kernel
theorem dX6_entries_22 : decode cX6_entries 22 = .ok (.ireturn, 1) := by decide +kernel
set_option maxRecDepth 20000 in
theorem ggX6_count_X6_links : GoodIn wsX6_count wsX6_links := goodIn_r _ [6, 1, 10, 11, 12, 13, 14, 15] (by decide +kernel) (by decide +kernel)
set_option maxRecDepth 20000 in
theorem gX6_count_X6_links : GoodIn wsX6_count (wsV RX6 40 RX6 yX6_links wsX6_links) := goodIn_app (goodIn_of _ (by decide +kernel)) ggX6_count_X6_links
set_option maxRecDepth 20000 in
theorem ggX6_count_X6_in : GoodIn wsX6_count wsX6_in := goodIn_r _ [9] (by decide +kernel) (by decide +kernel)
set_option maxRecDepth 20000 in
theorem gX6_count_X6_in : GoodIn wsX6_count (va_wsS RX6 22 yX6_in wsX6_in) := goodIn_app (goodIn_of _ (by decide +kernel)) ggX6_count_X6_in
theorem dX6_count_0 : decode cX6_count 0 = .ok (.iload_n 1, 1) := by decide +kernel
theorem dX6_count_1 : decode cX6_count 1 = .ok (.tableswitch 76 0 4 #[35, 44, 49, 58, 67], 35) := by decide +kernel
theorem dX6_count_36 : decode cX6_count 36 = .ok (.aload_n 0, 1) := by decide +kernel
theorem dX6_count_37 : decode cX6_count 37 = .ok (.getfield 7, 3) := by decide +kernel
theorem dX6_count_40 : decode cX6_count 40 = .ok (.sipush 360, 3) := by decide +kernel
theorem dX6_count_43 : decode cX6_count 43 = .ok (.iaload, 1) := by decide +kernel
theorem dX6_count_44 : decode cX6_count 44 = .ok (.ireturn, 1) := by decide +kernel
theorem dX6_count_45 : decode cX6_count 45 = .ok (.aload_n 0, 1) := by decide +kernel
theorem dX6_count_46 : decode cX6_count 46 = .ok (.invokevirtual 40, 3) := by decide +kernel
theorem dX6_count_49 : decode cX6_count 49 = .ok (.ireturn, 1) := by decide +kernel
theorem dX6_count_50 : decode cX6_count 50 = .ok (.aload_n 0, 1) := by decide +kernel
theorem dX6_count_51 : decode cX6_count 51 = .ok (.getfield 7, 3) := by decide +kernel
theorem dX6_count_54 : decode cX6_count 54 = .ok (.sipush 362, 3) := by decide +kernel
theorem dX6_count_57 : decode cX6_count 57 = .ok (.iaload, 1) := by decide +kernel
theorem dX6_count_58 : decode cX6_count 58 = .ok (.ireturn, 1) := by decide +kernel
theorem dX6_count_59 : decode cX6_count 59 = .ok (.aload_n 0, 1) := by decide +kernel
theorem dX6_count_60 : decode cX6_count 60 = .ok (.getfield 7, 3) := by decide +kernel
theorem dX6_count_63 : decode cX6_count 63 = .ok (.sipush 363, 3) := by decide +kernel
theorem dX6_count_66 : decode cX6_count 66 = .ok (.iaload, 1) := by decide +kernel
theorem dX6_count_67 : decode cX6_count 67 = .ok (.ireturn, 1) := by decide +kernel
theorem dX6_count_68 : decode cX6_count 68 = .ok (.aload_n 0, 1) := by decide +kernel
theorem dX6_count_69 : decode cX6_count 69 = .ok (.getfield 7, 3) := by decide +kernel
theorem dX6_count_72 : decode cX6_count 72 = .ok (.sipush 361, 3) := by decide +kernel
theorem dX6_count_75 : decode cX6_count 75 = .ok (.iaload, 1) := by decide +kernel
theorem dX6_count_76 : decode cX6_count 76 = .ok (.ireturn, 1) := by decide +kernel
theorem dX6_count_77 : decode cX6_count 77 = .ok (.iload_n 1, 1) := by decide +kernel
theorem dX6_count_78 : decode cX6_count 78 = .ok (.iconst 5, 1) := by decide +kernel
theorem dX6_count_79 : decode cX6_count 79 = .ok (.bipush 8, 2) := by decide +kernel
theorem dX6_count_81 : decode cX6_count 81 = .ok (.invokestatic 22, 3) := by decide +kernel
theorem dX6_count_84 : decode cX6_count 84 = .ok (.ifCond .eq 18, 3) := by decide +kernel
theorem dX6_count_87 : decode cX6_count 87 = .ok (.aload_n 0, 1) := by decide +kernel
theorem dX6_count_88 : decode cX6_count 88 = .ok (.getfield 7, 3) := by decide +kernel
theorem dX6_count_91 : decode cX6_count 91 = .ok (.sipush 364, 3) := by decide +kernel
theorem dX6_count_94 : decode cX6_count 94 = .ok (.iload_n 1, 1) := by decide +kernel
theorem dX6_count_95 : decode cX6_count 95 = .ok (.iadd, 1) := by decide +kernel
theorem dX6_count_96 : decode cX6_count 96 = .ok (.iconst 5, 1) := by decide +kernel
theorem dX6_count_97 : decode cX6_count 97 = .ok (.isub, 1) := by decide +kernel
theorem dX6_count_98 : decode cX6_count 98 = .ok (.iaload, 1) := by decide +kernel
theorem dX6_count_99 : decode cX6_count 99 = .ok (.goto 5, 3) := by decide +kernel
theorem dX6_count_102 : decode cX6_count 102 = .ok (.bipush (-102), 2) := by decide +kernel
theorem dX6_count_104 : decode cX6_count 104 = .ok (.ireturn, 1) := by decide +kernel
theorem dX6_keep_0 : decode cX6_keep 0 = .ok (.iconst 0, 1) := by decide +kernel
theorem dX6_keep_1 : decode cX6_keep 1 = .ok (.istore_n 1, 1) := by decide +kernel
theorem dX6_keep_2 : decode cX6_keep 2 = .ok (.iload_n 1, 1) := by decide +kernel
theorem dX6_keep_3 : decode cX6_keep 3 = .ok (.sipush 374, 3) := by decide +kernel
theorem dX6_keep_6 : decode cX6_keep 6 = .ok (.if_icmp .ge 21, 3) := by decide +kernel
theorem dX6_keep_9 : decode cX6_keep 9 = .ok (.aload_n 0, 1) := by decide +kernel
theorem dX6_keep_10 : decode cX6_keep 10 = .ok (.getfield 13, 3) := by decide +kernel
theorem dX6_keep_13 : decode cX6_keep 13 = .ok (.iload_n 1, 1) := by decide +kernel
theorem dX6_keep_14 : decode cX6_keep 14 = .ok (.aload_n 0, 1) := by decide +kernel
theorem dX6_keep_15 : decode cX6_keep 15 = .ok (.getfield 7, 3) := by decide +kernel
theorem dX6_keep_18 : decode cX6_keep 18 = .ok (.iload_n 1, 1) := by decide +kernel
theorem dX6_keep_19 : decode cX6_keep 19 = .ok (.iaload, 1) := by decide +kernel
theorem dX6_keep_20 : decode cX6_keep 20 = .ok (.iastore, 1) := by decide +kernel
theorem dX6_keep_21 : decode cX6_keep 21 = .ok (.iinc 1 1, 3) := by decide +kernel
theorem dX6_keep_24 : decode cX6_keep 24 = .ok (.goto (-22), 3) := by decide +kernel
theorem dX6_keep_27 : decode cX6_keep 27 = .ok (.aload_n 0, 1) := by decide +kernel
theorem dX6_keep_28 : decode cX6_keep 28 = .ok (.iconst 1, 1) := by decide +kernel
theorem dX6_keep_29 : decode cX6_keep 29 = .ok (.putfield 136, 3) := by decide +kernel
theorem dX6_keep_32 : decode cX6_keep 32 = .ok (.iconst 1, 1) := by decide +kernel
theorem dX6_keep_33 : decode cX6_keep 33 = .ok (.ireturn, 1) := by decide +kernel
theorem dX6_back_0 : decode cX6_back 0 = .ok (.aload_n 0, 1) := by decide +kernel
theorem dX6_back_1 : decode cX6_back 1 = .ok (.getfield 136, 3) := by decide +kernel
theorem dX6_back_4 : decode cX6_back 4 = .ok (.ifCond .ne 6, 3) := by decide +kernel
theorem dX6_back_7 : decode cX6_back 7 = .ok (.bipush (-103), 2) := by decide +kernel
theorem dX6_back_9 : decode cX6_back 9 = .ok (.ireturn, 1) := by decide +kernel
theorem dX6_back_10 : decode cX6_back 10 = .ok (.iconst 0, 1) := by decide +kernel
theorem dX6_back_11 : decode cX6_back 11 = .ok (.istore_n 1, 1) := by decide +kernel
theorem dX6_back_12 : decode cX6_back 12 = .ok (.iload_n 1, 1) := by decide +kernel
theorem dX6_back_13 : decode cX6_back 13 = .ok (.sipush 374, 3) := by decide +kernel
theorem dX6_back_16 : decode cX6_back 16 = .ok (.if_icmp .ge 21, 3) := by decide +kernel
theorem dX6_back_19 : decode cX6_back 19 = .ok (.aload_n 0, 1) := by decide +kernel
theorem dX6_back_20 : decode cX6_back 20 = .ok (.getfield 7, 3) := by decide +kernel
theorem dX6_back_23 : decode cX6_back 23 = .ok (.iload_n 1, 1) := by decide +kernel
theorem dX6_back_24 : decode cX6_back 24 = .ok (.aload_n 0, 1) := by decide +kernel
theorem dX6_back_25 : decode cX6_back 25 = .ok (.getfield 13, 3) := by decide +kernel
theorem dX6_back_28 : decode cX6_back 28 = .ok (.iload_n 1, 1) := by decide +kernel
theorem dX6_back_29 : decode cX6_back 29 = .ok (.iaload, 1) := by decide +kernel
theorem dX6_back_30 : decode cX6_back 30 = .ok (.iastore, 1) := by decide +kernel
theorem dX6_back_31 : decode cX6_back 31 = .ok (.iinc 1 1, 3) := by decide +kernel
theorem dX6_back_34 : decode cX6_back 34 = .ok (.goto (-22), 3) := by decide +kernel
theorem dX6_back_37 : decode cX6_back 37 = .ok (.iconst 1, 1) := by decide +kernel
theorem dX6_back_38 : decode cX6_back 38 = .ok (.ireturn, 1) := by decide +kernel
theorem dX6_mix_0 : decode cX6_mix 0 = .ok (.aload_n 0, 1) := by decide +kernel
theorem dX6_mix_1 : decode cX6_mix 1 = .ok (.ldc2_w 140, 3) := by decide +kernel
theorem dX6_mix_4 : decode cX6_mix 4 = .ok (.aload_n 0, 1) := by decide +kernel
theorem dX6_mix_5 : decode cX6_mix 5 = .ok (.getfield 142, 3) := by decide +kernel
theorem dX6_mix_8 : decode cX6_mix 8 = .ok (.lmul, 1) := by decide +kernel
theorem dX6_mix_9 : decode cX6_mix 9 = .ok (.lload_n 1, 1) := by decide +kernel
theorem dX6_mix_10 : decode cX6_mix 10 = .ok (.ladd, 1) := by decide +kernel
theorem dX6_mix_11 : decode cX6_mix 11 = .ok (.putfield 142, 3) := by decide +kernel
theorem dX6_mix_14 : decode cX6_mix 14 = .ok (.return_, 1) := by decide +kernel
set_option maxRecDepth 20000 in
theorem ggX6_digest_X6_mix : GoodIn wsX6_digest wsX6_mix := goodIn_r _ [8, 9, 2, 21, 22, 23, 24, 25, 26] (by decide +kernel) (by decide +kernel)
set_option maxRecDepth 20000 in
theorem gX6_digest_X6_mix : GoodIn wsX6_digest (wsV RX6 148 RX6 yX6_mix wsX6_mix) := goodIn_app (goodIn_of _ (by decide +kernel)) ggX6_digest_X6_mix
set_option maxRecDepth 20000 in
theorem ggX6_digest_X6_isLink : GoodIn wsX6_digest wsX6_isLink := goodIn_r _ [13, 3, 14, 15, 16, 7, 17, 18, 19, 20, 21, 22, 23, 24, 25, 26] (by decide +kernel) (by decide +kernel)
set_option maxRecDepth 20000 in
theorem gX6_digest_X6_isLink : GoodIn wsX6_digest (wsV RX6 30 RX6 yX6_isLink wsX6_isLink) := goodIn_app (goodIn_of _ (by decide +kernel)) ggX6_digest_X6_isLink
theorem dX6_digest_0 : decode cX6_digest 0 = .ok (.aload_n 0, 1) := by decide +kernel
theorem dX6_digest_1 : decode cX6_digest 1 = .ok (.ldc2_w 146, 3) := by decide +kernel
theorem dX6_digest_4 : decode cX6_digest 4 = .ok (.putfield 142, 3) := by decide +kernel
theorem dX6_digest_7 : decode cX6_digest 7 = .ok (.aload_n 0, 1) := by decide +kernel
theorem dX6_digest_8 : decode cX6_digest 8 = .ok (.aload_n 0, 1) := by decide +kernel
theorem dX6_digest_9 : decode cX6_digest 9 = .ok (.getfield 7, 3) := by decide +kernel
theorem dX6_digest_12 : decode cX6_digest 12 = .ok (.sipush 360, 3) := by decide +kernel
theorem dX6_digest_15 : decode cX6_digest 15 = .ok (.iaload, 1) := by decide +kernel
theorem dX6_digest_16 : decode cX6_digest 16 = .ok (.i2l, 1) := by decide +kernel
theorem dX6_digest_17 : decode cX6_digest 17 = .ok (.invokevirtual 148, 3) := by decide +kernel
theorem dX6_digest_20 : decode cX6_digest 20 = .ok (.aload_n 0, 1) := by decide +kernel
theorem dX6_digest_21 : decode cX6_digest 21 = .ok (.aload_n 0, 1) := by decide +kernel
theorem dX6_digest_22 : decode cX6_digest 22 = .ok (.getfield 7, 3) := by decide +kernel
theorem dX6_digest_25 : decode cX6_digest 25 = .ok (.sipush 361, 3) := by decide +kernel
theorem dX6_digest_28 : decode cX6_digest 28 = .ok (.iaload, 1) := by decide +kernel
theorem dX6_digest_29 : decode cX6_digest 29 = .ok (.i2l, 1) := by decide +kernel
theorem dX6_digest_30 : decode cX6_digest 30 = .ok (.invokevirtual 148, 3) := by decide +kernel
theorem dX6_digest_33 : decode cX6_digest 33 = .ok (.iconst 0, 1) := by decide +kernel
theorem dX6_digest_34 : decode cX6_digest 34 = .ok (.istore_n 1, 1) := by decide +kernel
theorem dX6_digest_35 : decode cX6_digest 35 = .ok (.iload_n 1, 1) := by decide +kernel
theorem dX6_digest_36 : decode cX6_digest 36 = .ok (.aload_n 0, 1) := by decide +kernel
theorem dX6_digest_37 : decode cX6_digest 37 = .ok (.getfield 7, 3) := by decide +kernel
theorem dX6_digest_40 : decode cX6_digest 40 = .ok (.sipush 360, 3) := by decide +kernel
theorem dX6_digest_43 : decode cX6_digest 43 = .ok (.iaload, 1) := by decide +kernel
theorem dX6_digest_44 : decode cX6_digest 44 = .ok (.if_icmp .ge 162, 3) := by decide +kernel
theorem dX6_digest_47 : decode cX6_digest 47 = .ok (.aload_n 0, 1) := by decide +kernel
theorem dX6_digest_48 : decode cX6_digest 48 = .ok (.aload_n 0, 1) := by decide +kernel
theorem dX6_digest_49 : decode cX6_digest 49 = .ok (.getfield 7, 3) := by decide +kernel
theorem dX6_digest_52 : decode cX6_digest 52 = .ok (.bipush 12, 2) := by decide +kernel
theorem dX6_digest_54 : decode cX6_digest 54 = .ok (.iload_n 1, 1) := by decide +kernel
theorem dX6_digest_55 : decode cX6_digest 55 = .ok (.iadd, 1) := by decide +kernel
theorem dX6_digest_56 : decode cX6_digest 56 = .ok (.iaload, 1) := by decide +kernel
theorem dX6_digest_57 : decode cX6_digest 57 = .ok (.i2l, 1) := by decide +kernel
theorem dX6_digest_58 : decode cX6_digest 58 = .ok (.invokevirtual 148, 3) := by decide +kernel
theorem dX6_digest_61 : decode cX6_digest 61 = .ok (.aload_n 0, 1) := by decide +kernel
theorem dX6_digest_62 : decode cX6_digest 62 = .ok (.aload_n 0, 1) := by decide +kernel
theorem dX6_digest_63 : decode cX6_digest 63 = .ok (.getfield 7, 3) := by decide +kernel
theorem dX6_digest_66 : decode cX6_digest 66 = .ok (.bipush 24, 2) := by decide +kernel
theorem dX6_digest_68 : decode cX6_digest 68 = .ok (.iload_n 1, 1) := by decide +kernel
theorem dX6_digest_69 : decode cX6_digest 69 = .ok (.iadd, 1) := by decide +kernel
theorem dX6_digest_70 : decode cX6_digest 70 = .ok (.iaload, 1) := by decide +kernel
theorem dX6_digest_71 : decode cX6_digest 71 = .ok (.i2l, 1) := by decide +kernel
theorem dX6_digest_72 : decode cX6_digest 72 = .ok (.invokevirtual 148, 3) := by decide +kernel
theorem dX6_digest_75 : decode cX6_digest 75 = .ok (.aload_n 0, 1) := by decide +kernel
theorem dX6_digest_76 : decode cX6_digest 76 = .ok (.aload_n 0, 1) := by decide +kernel
theorem dX6_digest_77 : decode cX6_digest 77 = .ok (.getfield 7, 3) := by decide +kernel
theorem dX6_digest_80 : decode cX6_digest 80 = .ok (.bipush 36, 2) := by decide +kernel
theorem dX6_digest_82 : decode cX6_digest 82 = .ok (.iload_n 1, 1) := by decide +kernel
theorem dX6_digest_83 : decode cX6_digest 83 = .ok (.iadd, 1) := by decide +kernel
theorem dX6_digest_84 : decode cX6_digest 84 = .ok (.iaload, 1) := by decide +kernel
theorem dX6_digest_85 : decode cX6_digest 85 = .ok (.i2l, 1) := by decide +kernel
theorem dX6_digest_86 : decode cX6_digest 86 = .ok (.invokevirtual 148, 3) := by decide +kernel
theorem dX6_digest_89 : decode cX6_digest 89 = .ok (.aload_n 0, 1) := by decide +kernel
theorem dX6_digest_90 : decode cX6_digest 90 = .ok (.aload_n 0, 1) := by decide +kernel
theorem dX6_digest_91 : decode cX6_digest 91 = .ok (.getfield 7, 3) := by decide +kernel
theorem dX6_digest_94 : decode cX6_digest 94 = .ok (.bipush 48, 2) := by decide +kernel
theorem dX6_digest_96 : decode cX6_digest 96 = .ok (.iload_n 1, 1) := by decide +kernel
theorem dX6_digest_97 : decode cX6_digest 97 = .ok (.iadd, 1) := by decide +kernel
theorem dX6_digest_98 : decode cX6_digest 98 = .ok (.iaload, 1) := by decide +kernel
theorem dX6_digest_99 : decode cX6_digest 99 = .ok (.i2l, 1) := by decide +kernel
theorem dX6_digest_100 : decode cX6_digest 100 = .ok (.invokevirtual 148, 3) := by decide +kernel
theorem dX6_digest_103 : decode cX6_digest 103 = .ok (.aload_n 0, 1) := by decide +kernel
theorem dX6_digest_104 : decode cX6_digest 104 = .ok (.aload_n 0, 1) := by decide +kernel
theorem dX6_digest_105 : decode cX6_digest 105 = .ok (.getfield 7, 3) := by decide +kernel
theorem dX6_digest_108 : decode cX6_digest 108 = .ok (.iconst 0, 1) := by decide +kernel
theorem dX6_digest_109 : decode cX6_digest 109 = .ok (.iload_n 1, 1) := by decide +kernel
theorem dX6_digest_110 : decode cX6_digest 110 = .ok (.iadd, 1) := by decide +kernel
theorem dX6_digest_111 : decode cX6_digest 111 = .ok (.iaload, 1) := by decide +kernel
theorem dX6_digest_112 : decode cX6_digest 112 = .ok (.i2l, 1) := by decide +kernel
theorem dX6_digest_113 : decode cX6_digest 113 = .ok (.invokevirtual 148, 3) := by decide +kernel
theorem dX6_digest_116 : decode cX6_digest 116 = .ok (.iconst 0, 1) := by decide +kernel
theorem dX6_digest_117 : decode cX6_digest 117 = .ok (.istore_n 2, 1) := by decide +kernel
theorem dX6_digest_118 : decode cX6_digest 118 = .ok (.iload_n 2, 1) := by decide +kernel
theorem dX6_digest_119 : decode cX6_digest 119 = .ok (.aload_n 0, 1) := by decide +kernel
theorem dX6_digest_120 : decode cX6_digest 120 = .ok (.getfield 7, 3) := by decide +kernel
theorem dX6_digest_123 : decode cX6_digest 123 = .ok (.sipush 360, 3) := by decide +kernel
theorem dX6_digest_126 : decode cX6_digest 126 = .ok (.iaload, 1) := by decide +kernel
theorem dX6_digest_127 : decode cX6_digest 127 = .ok (.if_icmp .ge 59, 3) := by decide +kernel
theorem dX6_digest_130 : decode cX6_digest 130 = .ok (.aload_n 0, 1) := by decide +kernel
theorem dX6_digest_131 : decode cX6_digest 131 = .ok (.iload_n 1, 1) := by decide +kernel
theorem dX6_digest_132 : decode cX6_digest 132 = .ok (.iload_n 2, 1) := by decide +kernel
theorem dX6_digest_133 : decode cX6_digest 133 = .ok (.invokevirtual 30, 3) := by decide +kernel
theorem dX6_digest_136 : decode cX6_digest 136 = .ok (.ifCond .eq 44, 3) := by decide +kernel
theorem dX6_digest_139 : decode cX6_digest 139 = .ok (.aload_n 0, 1) := by decide +kernel
theorem dX6_digest_140 : decode cX6_digest 140 = .ok (.iload_n 2, 1) := by decide +kernel
theorem dX6_digest_141 : decode cX6_digest 141 = .ok (.i2l, 1) := by decide +kernel
theorem dX6_digest_142 : decode cX6_digest 142 = .ok (.invokevirtual 148, 3) := by decide +kernel
theorem dX6_digest_145 : decode cX6_digest 145 = .ok (.aload_n 0, 1) := by decide +kernel
theorem dX6_digest_146 : decode cX6_digest 146 = .ok (.aload_n 0, 1) := by decide +kernel
theorem dX6_digest_147 : decode cX6_digest 147 = .ok (.getfield 7, 3) := by decide +kernel
theorem dX6_digest_150 : decode cX6_digest 150 = .ok (.sipush 361, 3) := by decide +kernel
theorem dX6_digest_153 : decode cX6_digest 153 = .ok (.iaload, 1) := by decide +kernel
theorem dX6_digest_154 : decode cX6_digest 154 = .ok (.iconst 1, 1) := by decide +kernel
theorem dX6_digest_155 : decode cX6_digest 155 = .ok (.if_icmp .ne 21, 3) := by decide +kernel
theorem dX6_digest_158 : decode cX6_digest 158 = .ok (.aload_n 0, 1) := by decide +kernel
theorem dX6_digest_159 : decode cX6_digest 159 = .ok (.getfield 7, 3) := by decide +kernel
theorem dX6_digest_162 : decode cX6_digest 162 = .ok (.bipush 72, 2) := by decide +kernel
theorem dX6_digest_164 : decode cX6_digest 164 = .ok (.bipush 12, 2) := by decide +kernel
theorem dX6_digest_166 : decode cX6_digest 166 = .ok (.iload_n 1, 1) := by decide +kernel
theorem dX6_digest_167 : decode cX6_digest 167 = .ok (.imul, 1) := by decide +kernel
theorem dX6_digest_168 : decode cX6_digest 168 = .ok (.iadd, 1) := by decide +kernel
theorem dX6_digest_169 : decode cX6_digest 169 = .ok (.iload_n 2, 1) := by decide +kernel
theorem dX6_digest_170 : decode cX6_digest 170 = .ok (.iadd, 1) := by decide +kernel
theorem dX6_digest_171 : decode cX6_digest 171 = .ok (.iaload, 1) := by decide +kernel
theorem dX6_digest_172 : decode cX6_digest 172 = .ok (.i2l, 1) := by decide +kernel
theorem dX6_digest_173 : decode cX6_digest 173 = .ok (.goto 4, 3) := by decide +kernel
theorem dX6_digest_176 : decode cX6_digest 176 = .ok (.lconst 0, 1) := by decide +kernel
theorem dX6_digest_177 : decode cX6_digest 177 = .ok (.invokevirtual 148, 3) := by decide +kernel
theorem dX6_digest_180 : decode cX6_digest 180 = .ok (.iinc 2 1, 3) := by decide +kernel
theorem dX6_digest_183 : decode cX6_digest 183 = .ok (.goto (-65), 3) := by decide +kernel
theorem dX6_digest_186 : decode cX6_digest 186 = .ok (.aload_n 0, 1) := by decide +kernel
theorem dX6_digest_187 : decode cX6_digest 187 = .ok (.aload_n 0, 1) := by decide +kernel
theorem dX6_digest_188 : decode cX6_digest 188 = .ok (.getfield 7, 3) := by decide +kernel
theorem dX6_digest_191 : decode cX6_digest 191 = .ok (.bipush 60, 2) := by decide +kernel
theorem dX6_digest_193 : decode cX6_digest 193 = .ok (.iload_n 1, 1) := by decide +kernel
theorem dX6_digest_194 : decode cX6_digest 194 = .ok (.iadd, 1) := by decide +kernel
theorem dX6_digest_195 : decode cX6_digest 195 = .ok (.iaload, 1) := by decide +kernel
theorem dX6_digest_196 : decode cX6_digest 196 = .ok (.i2l, 1) := by decide +kernel
theorem dX6_digest_197 : decode cX6_digest 197 = .ok (.invokevirtual 148, 3) := by decide +kernel
theorem dX6_digest_200 : decode cX6_digest 200 = .ok (.iinc 1 1, 3) := by decide +kernel
theorem dX6_digest_203 : decode cX6_digest 203 = .ok (.goto (-168), 3) := by decide +kernel
theorem dX6_digest_206 : decode cX6_digest 206 = .ok (.aload_n 0, 1) := by decide +kernel
theorem dX6_digest_207 : decode cX6_digest 207 = .ok (.aload_n 0, 1) := by decide +kernel
theorem dX6_digest_208 : decode cX6_digest 208 = .ok (.getfield 7, 3) := by decide +kernel
theorem dX6_digest_211 : decode cX6_digest 211 = .ok (.sipush 370, 3) := by decide +kernel
theorem dX6_digest_214 : decode cX6_digest 214 = .ok (.iaload, 1) := by decide +kernel
theorem dX6_digest_215 : decode cX6_digest 215 = .ok (.i2l, 1) := by decide +kernel
theorem dX6_digest_216 : decode cX6_digest 216 = .ok (.invokevirtual 148, 3) := by decide +kernel
theorem dX6_digest_219 : decode cX6_digest 219 = .ok (.aload_n 0, 1) := by decide +kernel
theorem dX6_digest_220 : decode cX6_digest 220 = .ok (.getfield 142, 3) := by decide +kernel
theorem dX6_digest_223 : decode cX6_digest 223 = .ok (.lreturn, 1) := by decide +kernel
theorem dJ6_bitCount_0f7a4_0 : decode cJ6_bitCount_0f7a4 0 = .ok (.iload_n 0, 1) := by decide +kernel
theorem dJ6_bitCount_0f7a4_1 : decode cJ6_bitCount_0f7a4 1 = .ok (.iload_n 0, 1) := by decide +kernel
theorem dJ6_bitCount_0f7a4_2 : decode cJ6_bitCount_0f7a4 2 = .ok (.iconst 1, 1) := by decide +kernel
theorem dJ6_bitCount_0f7a4_3 : decode cJ6_bitCount_0f7a4 3 = .ok (.iushr, 1) := by decide +kernel
theorem dJ6_bitCount_0f7a4_4 : decode cJ6_bitCount_0f7a4 4 = .ok (.ldc_w 265, 3) := by decide +kernel
theorem dJ6_bitCount_0f7a4_7 : decode cJ6_bitCount_0f7a4 7 = .ok (.iand, 1) := by decide +kernel
theorem dJ6_bitCount_0f7a4_8 : decode cJ6_bitCount_0f7a4 8 = .ok (.isub, 1) := by decide +kernel
theorem dJ6_bitCount_0f7a4_9 : decode cJ6_bitCount_0f7a4 9 = .ok (.istore_n 0, 1) := by decide +kernel
theorem dJ6_bitCount_0f7a4_10 : decode cJ6_bitCount_0f7a4 10 = .ok (.iload_n 0, 1) := by decide +kernel
theorem dJ6_bitCount_0f7a4_11 : decode cJ6_bitCount_0f7a4 11 = .ok (.ldc_w 266, 3) := by decide +kernel
theorem dJ6_bitCount_0f7a4_14 : decode cJ6_bitCount_0f7a4 14 = .ok (.iand, 1) := by decide +kernel
theorem dJ6_bitCount_0f7a4_15 : decode cJ6_bitCount_0f7a4 15 = .ok (.iload_n 0, 1) := by decide +kernel
theorem dJ6_bitCount_0f7a4_16 : decode cJ6_bitCount_0f7a4 16 = .ok (.iconst 2, 1) := by decide +kernel
theorem dJ6_bitCount_0f7a4_17 : decode cJ6_bitCount_0f7a4 17 = .ok (.iushr, 1) := by decide +kernel
theorem dJ6_bitCount_0f7a4_18 : decode cJ6_bitCount_0f7a4 18 = .ok (.ldc_w 266, 3) := by decide +kernel
theorem dJ6_bitCount_0f7a4_21 : decode cJ6_bitCount_0f7a4 21 = .ok (.iand, 1) := by decide +kernel
theorem dJ6_bitCount_0f7a4_22 : decode cJ6_bitCount_0f7a4 22 = .ok (.iadd, 1) := by decide +kernel
theorem dJ6_bitCount_0f7a4_23 : decode cJ6_bitCount_0f7a4 23 = .ok (.istore_n 0, 1) := by decide +kernel
theorem dJ6_bitCount_0f7a4_24 : decode cJ6_bitCount_0f7a4 24 = .ok (.iload_n 0, 1) := by decide +kernel
theorem dJ6_bitCount_0f7a4_25 : decode cJ6_bitCount_0f7a4 25 = .ok (.iload_n 0, 1) := by decide +kernel
theorem dJ6_bitCount_0f7a4_26 : decode cJ6_bitCount_0f7a4 26 = .ok (.iconst 4, 1) := by decide +kernel
theorem dJ6_bitCount_0f7a4_27 : decode cJ6_bitCount_0f7a4 27 = .ok (.iushr, 1) := by decide +kernel
theorem dJ6_bitCount_0f7a4_28 : decode cJ6_bitCount_0f7a4 28 = .ok (.iadd, 1) := by decide +kernel
theorem dJ6_bitCount_0f7a4_29 : decode cJ6_bitCount_0f7a4 29 = .ok (.ldc_w 267, 3) := by decide +kernel
theorem dJ6_bitCount_0f7a4_32 : decode cJ6_bitCount_0f7a4 32 = .ok (.iand, 1) := by decide +kernel
theorem dJ6_bitCount_0f7a4_33 : decode cJ6_bitCount_0f7a4 33 = .ok (.istore_n 0, 1) := by decide +kernel
theorem dJ6_bitCount_0f7a4_34 : decode cJ6_bitCount_0f7a4 34 = .ok (.iload_n 0, 1) := by decide +kernel
theorem dJ6_bitCount_0f7a4_35 : decode cJ6_bitCount_0f7a4 35 = .ok (.iload_n 0, 1) := by decide +kernel
theorem dJ6_bitCount_0f7a4_36 : decode cJ6_bitCount_0f7a4 36 = .ok (.bipush 8, 2) := by decide +kernel
theorem dJ6_bitCount_0f7a4_38 : decode cJ6_bitCount_0f7a4 38 = .ok (.iushr, 1) := by decide +kernel
theorem dJ6_bitCount_0f7a4_39 : decode cJ6_bitCount_0f7a4 39 = .ok (.iadd, 1) := by decide +kernel
theorem dJ6_bitCount_0f7a4_40 : decode cJ6_bitCount_0f7a4 40 = .ok (.istore_n 0, 1) := by decide +kernel
theorem dJ6_bitCount_0f7a4_41 : decode cJ6_bitCount_0f7a4 41 = .ok (.iload_n 0, 1) := by decide +kernel
theorem dJ6_bitCount_0f7a4_42 : decode cJ6_bitCount_0f7a4 42 = .ok (.iload_n 0, 1) := by decide +kernel
theorem dJ6_bitCount_0f7a4_43 : decode cJ6_bitCount_0f7a4 43 = .ok (.bipush 16, 2) := by decide +kernel
theorem dJ6_bitCount_0f7a4_45 : decode cJ6_bitCount_0f7a4 45 = .ok (.iushr, 1) := by decide +kernel
theorem dJ6_bitCount_0f7a4_46 : decode cJ6_bitCount_0f7a4 46 = .ok (.iadd, 1) := by decide +kernel
theorem dJ6_bitCount_0f7a4_47 : decode cJ6_bitCount_0f7a4 47 = .ok (.istore_n 0, 1) := by decide +kernel
theorem dJ6_bitCount_0f7a4_48 : decode cJ6_bitCount_0f7a4 48 = .ok (.iload_n 0, 1) := by decide +kernel
theorem dJ6_bitCount_0f7a4_49 : decode cJ6_bitCount_0f7a4 49 = .ok (.bipush 63, 2) := by decide +kernel
theorem dJ6_bitCount_0f7a4_51 : decode cJ6_bitCount_0f7a4 51 = .ok (.iand, 1) := by decide +kernel
theorem dJ6_bitCount_0f7a4_52 : decode cJ6_bitCount_0f7a4 52 = .ok (.ireturn, 1) := by decide +kernel
theorem dJ9_min_7cf53_0 : decode cJ9_min_7cf53 0 = .ok (.iload_n 0, 1) := by decide +kernel
theorem dJ9_min_7cf53_1 : decode cJ9_min_7cf53 1 = .ok (.iload_n 1, 1) := by decide +kernel
theorem dJ9_min_7cf53_2 : decode cJ9_min_7cf53 2 = .ok (.if_icmp .gt 7, 3) := by decide +kernel
theorem dJ9_min_7cf53_5 : decode cJ9_min_7cf53 5 = .ok (.iload_n 0, 1) := by decide +kernel
theorem dJ9_min_7cf53_6 : decode cJ9_min_7cf53 6 = .ok (.goto 4, 3) := by decide +kernel
theorem dJ9_min_7cf53_9 : decode cJ9_min_7cf53 9 = .ok (.iload_n 1, 1) := by decide +kernel
theorem dJ9_min_7cf53_10 : decode cJ9_min_7cf53 10 = .ok (.ireturn, 1) := by decide +kernel
theorem dJ7_fill_53178_0 : decode cJ7_fill_53178 0 = .ok (.iconst 0, 1) := by decide +kernel
theorem dJ7_fill_53178_1 : decode cJ7_fill_53178 1 = .ok (.istore_n 2, 1) := by decide +kernel
theorem dJ7_fill_53178_2 : decode cJ7_fill_53178 2 = .ok (.aload_n 0, 1) := by decide +kernel
theorem dJ7_fill_53178_3 : decode cJ7_fill_53178 3 = .ok (.arraylength, 1) := by decide +kernel
theorem dJ7_fill_53178_4 : decode cJ7_fill_53178 4 = .ok (.istore_n 3, 1) := by decide +kernel
theorem dJ7_fill_53178_5 : decode cJ7_fill_53178 5 = .ok (.iload_n 2, 1) := by decide +kernel
theorem dJ7_fill_53178_6 : decode cJ7_fill_53178 6 = .ok (.iload_n 3, 1) := by decide +kernel
theorem dJ7_fill_53178_7 : decode cJ7_fill_53178 7 = .ok (.if_icmp .ge 13, 3) := by decide +kernel
theorem dJ7_fill_53178_10 : decode cJ7_fill_53178 10 = .ok (.aload_n 0, 1) := by decide +kernel
theorem dJ7_fill_53178_11 : decode cJ7_fill_53178 11 = .ok (.iload_n 2, 1) := by decide +kernel
theorem dJ7_fill_53178_12 : decode cJ7_fill_53178 12 = .ok (.iload_n 1, 1) := by decide +kernel
theorem dJ7_fill_53178_13 : decode cJ7_fill_53178 13 = .ok (.iastore, 1) := by decide +kernel
theorem dJ7_fill_53178_14 : decode cJ7_fill_53178 14 = .ok (.iinc 2 1, 3) := by decide +kernel
theorem dJ7_fill_53178_17 : decode cJ7_fill_53178 17 = .ok (.goto (-12), 3) := by decide +kernel
theorem dJ7_fill_53178_20 : decode cJ7_fill_53178 20 = .ok (.return_, 1) := by decide +kernel
abbrev vwCl : List vw_C := [(RX0, TX0, 9), (RX1, TX1, 4), (RX3, TX3, 3), (RX4, TX4, 6), (RX5, TX5, 3), (RX6, TX6, 6)]
