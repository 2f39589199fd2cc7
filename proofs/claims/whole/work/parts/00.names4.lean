set_option maxRecDepth 20000 in
theorem ggX3_isPoint_X3_within : GoodIn wsX3_isPoint wsX3_within := goodIn_r _ [5] (by decide +kernel) (by decide +kernel)
set_option maxRecDepth 20000 in
theorem gX3_isPoint_X3_within : GoodIn wsX3_isPoint (va_wsS RX3 44 yX3_within wsX3_within) := goodIn_app (goodIn_of _ (by decide +kernel)) ggX3_isPoint_X3_within
theorem dX3_isPoint_0 : decode cX3_isPoint 0 = .ok (.iload_n 0, 1) := by decide +kernel
theorem dX3_isPoint_1 : decode cX3_isPoint 1 = .ok (.iconst 0, 1) := by decide +kernel
theorem dX3_isPoint_2 : decode cX3_isPoint 2 = .ok (.ldc 48, 2) := by decide +kernel
theorem dX3_isPoint_4 : decode cX3_isPoint 4 = .ok (.invokestatic 44, 3) := by decide +kernel
theorem dX3_isPoint_7 : decode cX3_isPoint 7 = .ok (.ireturn, 1) := by decide +kernel
set_option maxRecDepth 20000 in
theorem ggX3_isHigh_X3_within : GoodIn wsX3_isHigh wsX3_within := goodIn_r _ [6] (by decide +kernel) (by decide +kernel)
set_option maxRecDepth 20000 in
theorem gX3_isHigh_X3_within : GoodIn wsX3_isHigh (va_wsS RX3 44 yX3_within wsX3_within) := goodIn_app (goodIn_of _ (by decide +kernel)) ggX3_isHigh_X3_within
theorem dX3_isHigh_0 : decode cX3_isHigh 0 = .ok (.iload_n 0, 1) := by decide +kernel
theorem dX3_isHigh_1 : decode cX3_isHigh 1 = .ok (.ldc 49, 2) := by decide +kernel
theorem dX3_isHigh_3 : decode cX3_isHigh 3 = .ok (.ldc 50, 2) := by decide +kernel
theorem dX3_isHigh_5 : decode cX3_isHigh 5 = .ok (.invokestatic 44, 3) := by decide +kernel
theorem dX3_isHigh_8 : decode cX3_isHigh 8 = .ok (.ireturn, 1) := by decide +kernel
set_option maxRecDepth 20000 in
theorem ggX3_isLow_X3_within : GoodIn wsX3_isLow wsX3_within := goodIn_r _ [6] (by decide +kernel) (by decide +kernel)
set_option maxRecDepth 20000 in
theorem gX3_isLow_X3_within : GoodIn wsX3_isLow (va_wsS RX3 44 yX3_within wsX3_within) := goodIn_app (goodIn_of _ (by decide +kernel)) ggX3_isLow_X3_within
theorem dX3_isLow_0 : decode cX3_isLow 0 = .ok (.iload_n 0, 1) := by decide +kernel
theorem dX3_isLow_1 : decode cX3_isLow 1 = .ok (.ldc 51, 2) := by decide +kernel
theorem dX3_isLow_3 : decode cX3_isLow 3 = .ok (.ldc 52, 2) := by decide +kernel
theorem dX3_isLow_5 : decode cX3_isLow 5 = .ok (.invokestatic 44, 3) := by decide +kernel
theorem dX3_isLow_8 : decode cX3_isLow 8 = .ok (.ireturn, 1) := by decide +kernel
theorem dX3_no_0 : decode cX3_no 0 = .ok (.aload_n 0, 1) := by decide +kernel
theorem dX3_no_1 : decode cX3_no 1 = .ok (.iload_n 1, 1) := by decide +kernel
theorem dX3_no_2 : decode cX3_no 2 = .ok (.putfield 53, 3) := by decide +kernel
theorem dX3_no_5 : decode cX3_no 5 = .ok (.iconst 0, 1) := by decide +kernel
theorem dX3_no_6 : decode cX3_no 6 = .ok (.ireturn, 1) := by decide +kernel
theorem dX3_yes_0 : decode cX3_yes 0 = .ok (.aload_n 0, 1) := by decide +kernel
theorem dX3_yes_1 : decode cX3_yes 1 = .ok (.iconst 0, 1) := by decide +kernel
theorem dX3_yes_2 : decode cX3_yes 2 = .ok (.putfield 53, 3) := by decide +kernel
theorem dX3_yes_5 : decode cX3_yes 5 = .ok (.iload_n 1, 1) := by decide +kernel
theorem dX3_yes_6 : decode cX3_yes 6 = .ok (.ireturn, 1) := by decide +kernel
set_option maxRecDepth 20000 in
theorem ggX3_breaks_X3_no : GoodIn wsX3_breaks wsX3_no := goodIn_r _ [6, 7, 8, 9, 10, 11, 12, 13, 14, 15, 16, 17, 18, 19, 20, 21, 22, 23, 24, 25] (by decide +kernel) (by decide +kernel)
set_option maxRecDepth 20000 in
theorem gX3_breaks_X3_no : GoodIn wsX3_breaks (wsV RX3 56 RX3 yX3_no wsX3_no) := goodIn_app (goodIn_of _ (by decide +kernel)) ggX3_breaks_X3_no
theorem dX3_breaks_0 : decode cX3_breaks 0 = .ok (.aload_n 0, 1) := by decide +kernel
theorem dX3_breaks_1 : decode cX3_breaks 1 = .ok (.iload_n 1, 1) := by decide +kernel
theorem dX3_breaks_2 : decode cX3_breaks 2 = .ok (.putfield 28, 3) := by decide +kernel
theorem dX3_breaks_5 : decode cX3_breaks 5 = .ok (.aload_n 0, 1) := by decide +kernel
theorem dX3_breaks_6 : decode cX3_breaks 6 = .ok (.iconst 5, 1) := by decide +kernel
theorem dX3_breaks_7 : decode cX3_breaks 7 = .ok (.invokevirtual 56, 3) := by decide +kernel
theorem dX3_breaks_10 : decode cX3_breaks 10 = .ok (.ireturn, 1) := by decide +kernel
theorem dX3_code_0 : decode cX3_code 0 = .ok (.aload_n 0, 1) := by decide +kernel
theorem dX3_code_1 : decode cX3_code 1 = .ok (.getfield 53, 3) := by decide +kernel
theorem dX3_code_4 : decode cX3_code 4 = .ok (.ireturn, 1) := by decide +kernel
theorem dX3_place_0 : decode cX3_place 0 = .ok (.aload_n 0, 1) := by decide +kernel
theorem dX3_place_1 : decode cX3_place 1 = .ok (.getfield 28, 3) := by decide +kernel
theorem dX3_place_4 : decode cX3_place 4 = .ok (.ireturn, 1) := by decide +kernel
theorem dX3_freeRow_0 : decode cX3_freeRow 0 = .ok (.iconst 0, 1) := by decide +kernel
theorem dX3_freeRow_1 : decode cX3_freeRow 1 = .ok (.istore_n 1, 1) := by decide +kernel
theorem dX3_freeRow_2 : decode cX3_freeRow 2 = .ok (.iload_n 1, 1) := by decide +kernel
theorem dX3_freeRow_3 : decode cX3_freeRow 3 = .ok (.bipush 24, 2) := by decide +kernel
theorem dX3_freeRow_5 : decode cX3_freeRow 5 = .ok (.if_icmp .ge 87, 3) := by decide +kernel
theorem dX3_freeRow_8 : decode cX3_freeRow 8 = .ok (.iconst 0, 1) := by decide +kernel
theorem dX3_freeRow_9 : decode cX3_freeRow 9 = .ok (.istore_n 2, 1) := by decide +kernel
theorem dX3_freeRow_10 : decode cX3_freeRow 10 = .ok (.iconst 0, 1) := by decide +kernel
theorem dX3_freeRow_11 : decode cX3_freeRow 11 = .ok (.istore_n 3, 1) := by decide +kernel
theorem dX3_freeRow_12 : decode cX3_freeRow 12 = .ok (.iload_n 3, 1) := by decide +kernel
theorem dX3_freeRow_13 : decode cX3_freeRow 13 = .ok (.bipush 10, 2) := by decide +kernel
theorem dX3_freeRow_15 : decode cX3_freeRow 15 = .ok (.if_icmp .ge 29, 3) := by decide +kernel
theorem dX3_freeRow_18 : decode cX3_freeRow 18 = .ok (.iload_n 2, 1) := by decide +kernel
theorem dX3_freeRow_19 : decode cX3_freeRow 19 = .ok (.ifCond .ne 13, 3) := by decide +kernel
theorem dX3_freeRow_22 : decode cX3_freeRow 22 = .ok (.aload_n 0, 1) := by decide +kernel
theorem dX3_freeRow_23 : decode cX3_freeRow 23 = .ok (.getfield 7, 3) := by decide +kernel
theorem dX3_freeRow_26 : decode cX3_freeRow 26 = .ok (.iload_n 3, 1) := by decide +kernel
theorem dX3_freeRow_27 : decode cX3_freeRow 27 = .ok (.iaload, 1) := by decide +kernel
theorem dX3_freeRow_28 : decode cX3_freeRow 28 = .ok (.iload_n 1, 1) := by decide +kernel
theorem dX3_freeRow_29 : decode cX3_freeRow 29 = .ok (.if_icmp .ne 7, 3) := by decide +kernel
theorem dX3_freeRow_32 : decode cX3_freeRow 32 = .ok (.iconst 1, 1) := by decide +kernel
theorem dX3_freeRow_33 : decode cX3_freeRow 33 = .ok (.goto 4, 3) := by decide +kernel
theorem dX3_freeRow_36 : decode cX3_freeRow 36 = .ok (.iconst 0, 1) := by decide +kernel
theorem dX3_freeRow_37 : decode cX3_freeRow 37 = .ok (.istore_n 2, 1) := by decide +kernel
theorem dX3_freeRow_38 : decode cX3_freeRow 38 = .ok (.iinc 3 1, 3) := by decide +kernel
theorem dX3_freeRow_41 : decode cX3_freeRow 41 = .ok (.goto (-29), 3) := by decide +kernel
theorem dX3_freeRow_44 : decode cX3_freeRow 44 = .ok (.iconst 0, 1) := by decide +kernel
theorem dX3_freeRow_45 : decode cX3_freeRow 45 = .ok (.istore_n 3, 1) := by decide +kernel
theorem dX3_freeRow_46 : decode cX3_freeRow 46 = .ok (.iload_n 3, 1) := by decide +kernel
theorem dX3_freeRow_47 : decode cX3_freeRow 47 = .ok (.aload_n 0, 1) := by decide +kernel
theorem dX3_freeRow_48 : decode cX3_freeRow 48 = .ok (.getfield 60, 3) := by decide +kernel
theorem dX3_freeRow_51 : decode cX3_freeRow 51 = .ok (.if_icmp .ge 29, 3) := by decide +kernel
theorem dX3_freeRow_54 : decode cX3_freeRow 54 = .ok (.iload_n 2, 1) := by decide +kernel
theorem dX3_freeRow_55 : decode cX3_freeRow 55 = .ok (.ifCond .ne 13, 3) := by decide +kernel
theorem dX3_freeRow_58 : decode cX3_freeRow 58 = .ok (.aload_n 0, 1) := by decide +kernel
theorem dX3_freeRow_59 : decode cX3_freeRow 59 = .ok (.getfield 13, 3) := by decide +kernel
theorem dX3_freeRow_62 : decode cX3_freeRow 62 = .ok (.iload_n 3, 1) := by decide +kernel
theorem dX3_freeRow_63 : decode cX3_freeRow 63 = .ok (.iaload, 1) := by decide +kernel
theorem dX3_freeRow_64 : decode cX3_freeRow 64 = .ok (.iload_n 1, 1) := by decide +kernel
theorem dX3_freeRow_65 : decode cX3_freeRow 65 = .ok (.if_icmp .ne 7, 3) := by decide +kernel
theorem dX3_freeRow_68 : decode cX3_freeRow 68 = .ok (.iconst 1, 1) := by decide +kernel
theorem dX3_freeRow_69 : decode cX3_freeRow 69 = .ok (.goto 4, 3) := by decide +kernel
theorem dX3_freeRow_72 : decode cX3_freeRow 72 = .ok (.iconst 0, 1) := by decide +kernel
theorem dX3_freeRow_73 : decode cX3_freeRow 73 = .ok (.istore_n 2, 1) := by decide +kernel
theorem dX3_freeRow_74 : decode cX3_freeRow 74 = .ok (.iinc 3 1, 3) := by decide +kernel
theorem dX3_freeRow_77 : decode cX3_freeRow 77 = .ok (.goto (-31), 3) := by decide +kernel
theorem dX3_freeRow_80 : decode cX3_freeRow 80 = .ok (.iload_n 2, 1) := by decide +kernel
theorem dX3_freeRow_81 : decode cX3_freeRow 81 = .ok (.ifCond .ne 5, 3) := by decide +kernel
theorem dX3_freeRow_84 : decode cX3_freeRow 84 = .ok (.iload_n 1, 1) := by decide +kernel
theorem dX3_freeRow_85 : decode cX3_freeRow 85 = .ok (.ireturn, 1) := by decide +kernel
theorem dX3_freeRow_86 : decode cX3_freeRow 86 = .ok (.iinc 1 1, 3) := by decide +kernel
theorem dX3_freeRow_89 : decode cX3_freeRow 89 = .ok (.goto (-87), 3) := by decide +kernel
theorem dX3_freeRow_92 : decode cX3_freeRow 92 = .ok (.iconst (-1), 1) := by decide +kernel
theorem dX3_freeRow_93 : decode cX3_freeRow 93 = .ok (.ireturn, 1) := by decide +kernel
set_option maxRecDepth 20000 in
theorem ggX3_become_X3_freeRow : GoodIn wsX3_become wsX3_freeRow := goodIn_r _ [9, 4, 10, 11, 17, 18, 19, 20, 21, 22, 23, 24, 25, 26, 27, 28, 29, 30, 31, 32, 33, 34] (by decide +kernel) (by decide +kernel)
set_option maxRecDepth 20000 in
theorem gX3_become_X3_freeRow : GoodIn wsX3_become (wsV RX3 63 RX3 yX3_freeRow wsX3_freeRow) := goodIn_app (goodIn_of _ (by decide +kernel)) ggX3_become_X3_freeRow
set_option maxRecDepth 20000 in
theorem ggX3_become_X3_yes : GoodIn wsX3_become wsX3_yes := goodIn_r _ [15, 16, 17, 18, 19, 20, 21, 22, 23, 24, 25, 26, 27, 28, 29, 30, 31, 32, 33, 34] (by decide +kernel) (by decide +kernel)
set_option maxRecDepth 20000 in
theorem gX3_become_X3_yes : GoodIn wsX3_become (wsV RX3 67 RX3 yX3_yes wsX3_yes) := goodIn_app (goodIn_of _ (by decide +kernel)) ggX3_become_X3_yes
theorem dX3_become_0 : decode cX3_become 0 = .ok (.aload_n 0, 1) := by decide +kernel
theorem dX3_become_1 : decode cX3_become 1 = .ok (.invokevirtual 63, 3) := by decide +kernel
theorem dX3_become_4 : decode cX3_become 4 = .ok (.istore 5, 2) := by decide +kernel
theorem dX3_become_6 : decode cX3_become 6 = .ok (.aload_n 0, 1) := by decide +kernel
theorem dX3_become_7 : decode cX3_become 7 = .ok (.getfield 16, 3) := by decide +kernel
theorem dX3_become_10 : decode cX3_become 10 = .ok (.iload 5, 2) := by decide +kernel
theorem dX3_become_12 : decode cX3_become 12 = .ok (.iload_n 2, 1) := by decide +kernel
theorem dX3_become_13 : decode cX3_become 13 = .ok (.iastore, 1) := by decide +kernel
theorem dX3_become_14 : decode cX3_become 14 = .ok (.aload_n 0, 1) := by decide +kernel
theorem dX3_become_15 : decode cX3_become 15 = .ok (.getfield 19, 3) := by decide +kernel
theorem dX3_become_18 : decode cX3_become 18 = .ok (.iload 5, 2) := by decide +kernel
theorem dX3_become_20 : decode cX3_become 20 = .ok (.iload 4, 2) := by decide +kernel
theorem dX3_become_22 : decode cX3_become 22 = .ok (.iastore, 1) := by decide +kernel
theorem dX3_become_23 : decode cX3_become 23 = .ok (.iconst 0, 1) := by decide +kernel
theorem dX3_become_24 : decode cX3_become 24 = .ok (.istore 6, 2) := by decide +kernel
theorem dX3_become_26 : decode cX3_become 26 = .ok (.iload 6, 2) := by decide +kernel
theorem dX3_become_28 : decode cX3_become 28 = .ok (.iload 4, 2) := by decide +kernel
theorem dX3_become_30 : decode cX3_become 30 = .ok (.if_icmp .ge 27, 3) := by decide +kernel
theorem dX3_become_33 : decode cX3_become 33 = .ok (.aload_n 0, 1) := by decide +kernel
theorem dX3_become_34 : decode cX3_become 34 = .ok (.getfield 22, 3) := by decide +kernel
theorem dX3_become_37 : decode cX3_become 37 = .ok (.sipush 240, 3) := by decide +kernel
theorem dX3_become_40 : decode cX3_become 40 = .ok (.iload 5, 2) := by decide +kernel
theorem dX3_become_42 : decode cX3_become 42 = .ok (.imul, 1) := by decide +kernel
theorem dX3_become_43 : decode cX3_become 43 = .ok (.iload 6, 2) := by decide +kernel
theorem dX3_become_45 : decode cX3_become 45 = .ok (.iadd, 1) := by decide +kernel
theorem dX3_become_46 : decode cX3_become 46 = .ok (.aload_n 3, 1) := by decide +kernel
theorem dX3_become_47 : decode cX3_become 47 = .ok (.iload 6, 2) := by decide +kernel
theorem dX3_become_49 : decode cX3_become 49 = .ok (.iaload, 1) := by decide +kernel
theorem dX3_become_50 : decode cX3_become 50 = .ok (.iastore, 1) := by decide +kernel
theorem dX3_become_51 : decode cX3_become 51 = .ok (.iinc 6 1, 3) := by decide +kernel
theorem dX3_become_54 : decode cX3_become 54 = .ok (.goto (-28), 3) := by decide +kernel
theorem dX3_become_57 : decode cX3_become 57 = .ok (.aload_n 0, 1) := by decide +kernel
theorem dX3_become_58 : decode cX3_become 58 = .ok (.getfield 7, 3) := by decide +kernel
theorem dX3_become_61 : decode cX3_become 61 = .ok (.iload_n 1, 1) := by decide +kernel
theorem dX3_become_62 : decode cX3_become 62 = .ok (.iload 5, 2) := by decide +kernel
theorem dX3_become_64 : decode cX3_become 64 = .ok (.iastore, 1) := by decide +kernel
theorem dX3_become_65 : decode cX3_become 65 = .ok (.aload_n 0, 1) := by decide +kernel
theorem dX3_become_66 : decode cX3_become 66 = .ok (.iload 4, 2) := by decide +kernel
theorem dX3_become_68 : decode cX3_become 68 = .ok (.invokevirtual 67, 3) := by decide +kernel
theorem dX3_become_71 : decode cX3_become 71 = .ok (.ireturn, 1) := by decide +kernel
theorem dX3_sortOf_0 : decode cX3_sortOf 0 = .ok (.aload_n 0, 1) := by decide +kernel
theorem dX3_sortOf_1 : decode cX3_sortOf 1 = .ok (.getfield 7, 3) := by decide +kernel
theorem dX3_sortOf_4 : decode cX3_sortOf 4 = .ok (.iload_n 1, 1) := by decide +kernel
theorem dX3_sortOf_5 : decode cX3_sortOf 5 = .ok (.iaload, 1) := by decide +kernel
theorem dX3_sortOf_6 : decode cX3_sortOf 6 = .ok (.iconst (-1), 1) := by decide +kernel
theorem dX3_sortOf_7 : decode cX3_sortOf 7 = .ok (.if_icmp .ne 7, 3) := by decide +kernel
theorem dX3_sortOf_10 : decode cX3_sortOf 10 = .ok (.iconst (-1), 1) := by decide +kernel
theorem dX3_sortOf_11 : decode cX3_sortOf 11 = .ok (.goto 14, 3) := by decide +kernel
theorem dX3_sortOf_14 : decode cX3_sortOf 14 = .ok (.aload_n 0, 1) := by decide +kernel
theorem dX3_sortOf_15 : decode cX3_sortOf 15 = .ok (.getfield 16, 3) := by decide +kernel
theorem dX3_sortOf_18 : decode cX3_sortOf 18 = .ok (.aload_n 0, 1) := by decide +kernel
theorem dX3_sortOf_19 : decode cX3_sortOf 19 = .ok (.getfield 7, 3) := by decide +kernel
theorem dX3_sortOf_22 : decode cX3_sortOf 22 = .ok (.iload_n 1, 1) := by decide +kernel
theorem dX3_sortOf_23 : decode cX3_sortOf 23 = .ok (.iaload, 1) := by decide +kernel
theorem dX3_sortOf_24 : decode cX3_sortOf 24 = .ok (.iaload, 1) := by decide +kernel
theorem dX3_sortOf_25 : decode cX3_sortOf 25 = .ok (.ireturn, 1) := by decide +kernel
theorem dX3_manyOf_0 : decode cX3_manyOf 0 = .ok (.aload_n 0, 1) := by decide +kernel
theorem dX3_manyOf_1 : decode cX3_manyOf 1 = .ok (.getfield 19, 3) := by decide +kernel
theorem dX3_manyOf_4 : decode cX3_manyOf 4 = .ok (.aload_n 0, 1) := by decide +kernel
theorem dX3_manyOf_5 : decode cX3_manyOf 5 = .ok (.getfield 7, 3) := by decide +kernel
theorem dX3_manyOf_8 : decode cX3_manyOf 8 = .ok (.iload_n 1, 1) := by decide +kernel
theorem dX3_manyOf_9 : decode cX3_manyOf 9 = .ok (.iaload, 1) := by decide +kernel
theorem dX3_manyOf_10 : decode cX3_manyOf 10 = .ok (.iaload, 1) := by decide +kernel
theorem dX3_manyOf_11 : decode cX3_manyOf 11 = .ok (.ireturn, 1) := by decide +kernel
theorem dX3_item_0 : decode cX3_item 0 = .ok (.aload_n 0, 1) := by decide +kernel
theorem dX3_item_1 : decode cX3_item 1 = .ok (.getfield 22, 3) := by decide +kernel
theorem dX3_item_4 : decode cX3_item 4 = .ok (.sipush 240, 3) := by decide +kernel
theorem dX3_item_7 : decode cX3_item 7 = .ok (.aload_n 0, 1) := by decide +kernel
theorem dX3_item_8 : decode cX3_item 8 = .ok (.getfield 7, 3) := by decide +kernel
theorem dX3_item_11 : decode cX3_item 11 = .ok (.iload_n 1, 1) := by decide +kernel
theorem dX3_item_12 : decode cX3_item 12 = .ok (.iaload, 1) := by decide +kernel
theorem dX3_item_13 : decode cX3_item 13 = .ok (.imul, 1) := by decide +kernel
theorem dX3_item_14 : decode cX3_item 14 = .ok (.iload_n 2, 1) := by decide +kernel
theorem dX3_item_15 : decode cX3_item 15 = .ok (.iadd, 1) := by decide +kernel
theorem dX3_item_16 : decode cX3_item 16 = .ok (.iaload, 1) := by decide +kernel
theorem dX3_item_17 : decode cX3_item 17 = .ok (.ireturn, 1) := by decide +kernel
theorem dX3_addUnits_0 : decode cX3_addUnits 0 = .ok (.iload_n 1, 1) := by decide +kernel
theorem dX3_addUnits_1 : decode cX3_addUnits 1 = .ok (.ldc 70, 2) := by decide +kernel
theorem dX3_addUnits_3 : decode cX3_addUnits 3 = .ok (.if_icmp .ge 26, 3) := by decide +kernel
theorem dX3_addUnits_6 : decode cX3_addUnits 6 = .ok (.aload_n 0, 1) := by decide +kernel
theorem dX3_addUnits_7 : decode cX3_addUnits 7 = .ok (.getfield 35, 3) := by decide +kernel
theorem dX3_addUnits_10 : decode cX3_addUnits 10 = .ok (.aload_n 0, 1) := by decide +kernel
theorem dX3_addUnits_11 : decode cX3_addUnits 11 = .ok (.getfield 71, 3) := by decide +kernel
theorem dX3_addUnits_14 : decode cX3_addUnits 14 = .ok (.iload_n 1, 1) := by decide +kernel
theorem dX3_addUnits_15 : decode cX3_addUnits 15 = .ok (.iastore, 1) := by decide +kernel
theorem dX3_addUnits_16 : decode cX3_addUnits 16 = .ok (.aload_n 0, 1) := by decide +kernel
theorem dX3_addUnits_17 : decode cX3_addUnits 17 = .ok (.dup, 1) := by decide +kernel
theorem dX3_addUnits_18 : decode cX3_addUnits 18 = .ok (.getfield 71, 3) := by decide +kernel
theorem dX3_addUnits_21 : decode cX3_addUnits 21 = .ok (.iconst 1, 1) := by decide +kernel
theorem dX3_addUnits_22 : decode cX3_addUnits 22 = .ok (.iadd, 1) := by decide +kernel
theorem dX3_addUnits_23 : decode cX3_addUnits 23 = .ok (.putfield 71, 3) := by decide +kernel
theorem dX3_addUnits_26 : decode cX3_addUnits 26 = .ok (.goto 55, 3) := by decide +kernel
theorem dX3_addUnits_29 : decode cX3_addUnits 29 = .ok (.aload_n 0, 1) := by decide +kernel
theorem dX3_addUnits_30 : decode cX3_addUnits 30 = .ok (.getfield 35, 3) := by decide +kernel
theorem dX3_addUnits_33 : decode cX3_addUnits 33 = .ok (.aload_n 0, 1) := by decide +kernel
theorem dX3_addUnits_34 : decode cX3_addUnits 34 = .ok (.getfield 71, 3) := by decide +kernel
theorem dX3_addUnits_37 : decode cX3_addUnits 37 = .ok (.ldc 49, 2) := by decide +kernel
theorem dX3_addUnits_39 : decode cX3_addUnits 39 = .ok (.iload_n 1, 1) := by decide +kernel
theorem dX3_addUnits_40 : decode cX3_addUnits 40 = .ok (.ldc 70, 2) := by decide +kernel
theorem dX3_addUnits_42 : decode cX3_addUnits 42 = .ok (.isub, 1) := by decide +kernel
theorem dX3_addUnits_43 : decode cX3_addUnits 43 = .ok (.sipush 1024, 3) := by decide +kernel
theorem dX3_addUnits_46 : decode cX3_addUnits 46 = .ok (.idiv, 1) := by decide +kernel
theorem dX3_addUnits_47 : decode cX3_addUnits 47 = .ok (.iadd, 1) := by decide +kernel
theorem dX3_addUnits_48 : decode cX3_addUnits 48 = .ok (.iastore, 1) := by decide +kernel
theorem dX3_addUnits_49 : decode cX3_addUnits 49 = .ok (.aload_n 0, 1) := by decide +kernel
theorem dX3_addUnits_50 : decode cX3_addUnits 50 = .ok (.getfield 35, 3) := by decide +kernel
theorem dX3_addUnits_53 : decode cX3_addUnits 53 = .ok (.aload_n 0, 1) := by decide +kernel
theorem dX3_addUnits_54 : decode cX3_addUnits 54 = .ok (.getfield 71, 3) := by decide +kernel
theorem dX3_addUnits_57 : decode cX3_addUnits 57 = .ok (.iconst 1, 1) := by decide +kernel
theorem dX3_addUnits_58 : decode cX3_addUnits 58 = .ok (.iadd, 1) := by decide +kernel
theorem dX3_addUnits_59 : decode cX3_addUnits 59 = .ok (.ldc 51, 2) := by decide +kernel
theorem dX3_addUnits_61 : decode cX3_addUnits 61 = .ok (.iload_n 1, 1) := by decide +kernel
theorem dX3_addUnits_62 : decode cX3_addUnits 62 = .ok (.ldc 70, 2) := by decide +kernel
theorem dX3_addUnits_64 : decode cX3_addUnits 64 = .ok (.isub, 1) := by decide +kernel
theorem dX3_addUnits_65 : decode cX3_addUnits 65 = .ok (.sipush 1024, 3) := by decide +kernel
theorem dX3_addUnits_68 : decode cX3_addUnits 68 = .ok (.irem, 1) := by decide +kernel
theorem dX3_addUnits_69 : decode cX3_addUnits 69 = .ok (.iadd, 1) := by decide +kernel
theorem dX3_addUnits_70 : decode cX3_addUnits 70 = .ok (.iastore, 1) := by decide +kernel
theorem dX3_addUnits_71 : decode cX3_addUnits 71 = .ok (.aload_n 0, 1) := by decide +kernel
theorem dX3_addUnits_72 : decode cX3_addUnits 72 = .ok (.dup, 1) := by decide +kernel
theorem dX3_addUnits_73 : decode cX3_addUnits 73 = .ok (.getfield 71, 3) := by decide +kernel
theorem dX3_addUnits_76 : decode cX3_addUnits 76 = .ok (.iconst 2, 1) := by decide +kernel
theorem dX3_addUnits_77 : decode cX3_addUnits 77 = .ok (.iadd, 1) := by decide +kernel
theorem dX3_addUnits_78 : decode cX3_addUnits 78 = .ok (.putfield 71, 3) := by decide +kernel
theorem dX3_addUnits_81 : decode cX3_addUnits 81 = .ok (.return_, 1) := by decide +kernel
set_option maxRecDepth 20000 in
theorem ggX3_unitsToPoints_X3_isHigh : GoodIn wsX3_unitsToPoints wsX3_isHigh := goodIn_r _ [11, 6, 12, 13, 14, 10, 15] (by decide +kernel) (by decide +kernel)
set_option maxRecDepth 20000 in
theorem gX3_unitsToPoints_X3_isHigh : GoodIn wsX3_unitsToPoints (va_wsS RX3 77 yX3_isHigh wsX3_isHigh) := goodIn_app (goodIn_of _ (by decide +kernel)) ggX3_unitsToPoints_X3_isHigh
set_option maxRecDepth 20000 in
theorem ggX3_unitsToPoints_X3_isLow : GoodIn wsX3_unitsToPoints wsX3_isLow := goodIn_r _ [18, 7, 19, 13, 14, 10, 15] (by decide +kernel) (by decide +kernel)
set_option maxRecDepth 20000 in
theorem gX3_unitsToPoints_X3_isLow : GoodIn wsX3_unitsToPoints (va_wsS RX3 81 yX3_isLow wsX3_isLow) := goodIn_app (goodIn_of _ (by decide +kernel)) ggX3_unitsToPoints_X3_isLow
theorem dX3_unitsToPoints_0 : decode cX3_unitsToPoints 0 = .ok (.aload_n 0, 1) := by decide +kernel
theorem dX3_unitsToPoints_1 : decode cX3_unitsToPoints 1 = .ok (.iconst 0, 1) := by decide +kernel
theorem dX3_unitsToPoints_2 : decode cX3_unitsToPoints 2 = .ok (.putfield 74, 3) := by decide +kernel
theorem dX3_unitsToPoints_5 : decode cX3_unitsToPoints 5 = .ok (.iconst 0, 1) := by decide +kernel
theorem dX3_unitsToPoints_6 : decode cX3_unitsToPoints 6 = .ok (.istore_n 1, 1) := by decide +kernel
theorem dX3_unitsToPoints_7 : decode cX3_unitsToPoints 7 = .ok (.iload_n 1, 1) := by decide +kernel
theorem dX3_unitsToPoints_8 : decode cX3_unitsToPoints 8 = .ok (.aload_n 0, 1) := by decide +kernel
theorem dX3_unitsToPoints_9 : decode cX3_unitsToPoints 9 = .ok (.getfield 71, 3) := by decide +kernel
theorem dX3_unitsToPoints_12 : decode cX3_unitsToPoints 12 = .ok (.if_icmp .ge 120, 3) := by decide +kernel
theorem dX3_unitsToPoints_15 : decode cX3_unitsToPoints 15 = .ok (.aload_n 0, 1) := by decide +kernel
theorem dX3_unitsToPoints_16 : decode cX3_unitsToPoints 16 = .ok (.getfield 35, 3) := by decide +kernel
theorem dX3_unitsToPoints_19 : decode cX3_unitsToPoints 19 = .ok (.iload_n 1, 1) := by decide +kernel
theorem dX3_unitsToPoints_20 : decode cX3_unitsToPoints 20 = .ok (.iaload, 1) := by decide +kernel
theorem dX3_unitsToPoints_21 : decode cX3_unitsToPoints 21 = .ok (.invokestatic 77, 3) := by decide +kernel
theorem dX3_unitsToPoints_24 : decode cX3_unitsToPoints 24 = .ok (.ifCond .eq 31, 3) := by decide +kernel
theorem dX3_unitsToPoints_27 : decode cX3_unitsToPoints 27 = .ok (.iload_n 1, 1) := by decide +kernel
theorem dX3_unitsToPoints_28 : decode cX3_unitsToPoints 28 = .ok (.iconst 1, 1) := by decide +kernel
theorem dX3_unitsToPoints_29 : decode cX3_unitsToPoints 29 = .ok (.iadd, 1) := by decide +kernel
theorem dX3_unitsToPoints_30 : decode cX3_unitsToPoints 30 = .ok (.aload_n 0, 1) := by decide +kernel
theorem dX3_unitsToPoints_31 : decode cX3_unitsToPoints 31 = .ok (.getfield 71, 3) := by decide +kernel
theorem dX3_unitsToPoints_34 : decode cX3_unitsToPoints 34 = .ok (.if_icmp .ge 21, 3) := by decide +kernel
theorem dX3_unitsToPoints_37 : decode cX3_unitsToPoints 37 = .ok (.aload_n 0, 1) := by decide +kernel
theorem dX3_unitsToPoints_38 : decode cX3_unitsToPoints 38 = .ok (.getfield 35, 3) := by decide +kernel
theorem dX3_unitsToPoints_41 : decode cX3_unitsToPoints 41 = .ok (.iload_n 1, 1) := by decide +kernel
theorem dX3_unitsToPoints_42 : decode cX3_unitsToPoints 42 = .ok (.iconst 1, 1) := by decide +kernel
theorem dX3_unitsToPoints_43 : decode cX3_unitsToPoints 43 = .ok (.iadd, 1) := by decide +kernel
theorem dX3_unitsToPoints_44 : decode cX3_unitsToPoints 44 = .ok (.iaload, 1) := by decide +kernel
theorem dX3_unitsToPoints_45 : decode cX3_unitsToPoints 45 = .ok (.invokestatic 81, 3) := by decide +kernel
theorem dX3_unitsToPoints_48 : decode cX3_unitsToPoints 48 = .ok (.ifCond .eq 7, 3) := by decide +kernel
theorem dX3_unitsToPoints_51 : decode cX3_unitsToPoints 51 = .ok (.iconst 1, 1) := by decide +kernel
theorem dX3_unitsToPoints_52 : decode cX3_unitsToPoints 52 = .ok (.goto 4, 3) := by decide +kernel
theorem dX3_unitsToPoints_55 : decode cX3_unitsToPoints 55 = .ok (.iconst 0, 1) := by decide +kernel
theorem dX3_unitsToPoints_56 : decode cX3_unitsToPoints 56 = .ok (.istore_n 2, 1) := by decide +kernel
theorem dX3_unitsToPoints_57 : decode cX3_unitsToPoints 57 = .ok (.aload_n 0, 1) := by decide +kernel
theorem dX3_unitsToPoints_58 : decode cX3_unitsToPoints 58 = .ok (.getfield 32, 3) := by decide +kernel
theorem dX3_unitsToPoints_61 : decode cX3_unitsToPoints 61 = .ok (.aload_n 0, 1) := by decide +kernel
theorem dX3_unitsToPoints_62 : decode cX3_unitsToPoints 62 = .ok (.getfield 74, 3) := by decide +kernel
theorem dX3_unitsToPoints_65 : decode cX3_unitsToPoints 65 = .ok (.iload_n 2, 1) := by decide +kernel
theorem dX3_unitsToPoints_66 : decode cX3_unitsToPoints 66 = .ok (.ifCond .eq 34, 3) := by decide +kernel
theorem dX3_unitsToPoints_69 : decode cX3_unitsToPoints 69 = .ok (.ldc 70, 2) := by decide +kernel
theorem dX3_unitsToPoints_71 : decode cX3_unitsToPoints 71 = .ok (.aload_n 0, 1) := by decide +kernel
theorem dX3_unitsToPoints_72 : decode cX3_unitsToPoints 72 = .ok (.getfield 35, 3) := by decide +kernel
theorem dX3_unitsToPoints_75 : decode cX3_unitsToPoints 75 = .ok (.iload_n 1, 1) := by decide +kernel
theorem dX3_unitsToPoints_76 : decode cX3_unitsToPoints 76 = .ok (.iaload, 1) := by decide +kernel
theorem dX3_unitsToPoints_77 : decode cX3_unitsToPoints 77 = .ok (.ldc 49, 2) := by decide +kernel
theorem dX3_unitsToPoints_79 : decode cX3_unitsToPoints 79 = .ok (.isub, 1) := by decide +kernel
theorem dX3_unitsToPoints_80 : decode cX3_unitsToPoints 80 = .ok (.sipush 1024, 3) := by decide +kernel
theorem dX3_unitsToPoints_83 : decode cX3_unitsToPoints 83 = .ok (.imul, 1) := by decide +kernel
theorem dX3_unitsToPoints_84 : decode cX3_unitsToPoints 84 = .ok (.iadd, 1) := by decide +kernel
theorem dX3_unitsToPoints_85 : decode cX3_unitsToPoints 85 = .ok (.aload_n 0, 1) := by decide +kernel
theorem dX3_unitsToPoints_86 : decode cX3_unitsToPoints 86 = .ok (.getfield 35, 3) := by decide +kernel
theorem dX3_unitsToPoints_89 : decode cX3_unitsToPoints 89 = .ok (.iload_n 1, 1) := by decide +kernel
theorem dX3_unitsToPoints_90 : decode cX3_unitsToPoints 90 = .ok (.iconst 1, 1) := by decide +kernel
theorem dX3_unitsToPoints_91 : decode cX3_unitsToPoints 91 = .ok (.iadd, 1) := by decide +kernel
theorem dX3_unitsToPoints_92 : decode cX3_unitsToPoints 92 = .ok (.iaload, 1) := by decide +kernel
theorem dX3_unitsToPoints_93 : decode cX3_unitsToPoints 93 = .ok (.iadd, 1) := by decide +kernel
theorem dX3_unitsToPoints_94 : decode cX3_unitsToPoints 94 = .ok (.ldc 51, 2) := by decide +kernel
theorem dX3_unitsToPoints_96 : decode cX3_unitsToPoints 96 = .ok (.isub, 1) := by decide +kernel
theorem dX3_unitsToPoints_97 : decode cX3_unitsToPoints 97 = .ok (.goto 9, 3) := by decide +kernel
theorem dX3_unitsToPoints_100 : decode cX3_unitsToPoints 100 = .ok (.aload_n 0, 1) := by decide +kernel
theorem dX3_unitsToPoints_101 : decode cX3_unitsToPoints 101 = .ok (.getfield 35, 3) := by decide +kernel
theorem dX3_unitsToPoints_104 : decode cX3_unitsToPoints 104 = .ok (.iload_n 1, 1) := by decide +kernel
theorem dX3_unitsToPoints_105 : decode cX3_unitsToPoints 105 = .ok (.iaload, 1) := by decide +kernel
theorem dX3_unitsToPoints_106 : decode cX3_unitsToPoints 106 = .ok (.iastore, 1) := by decide +kernel
theorem dX3_unitsToPoints_107 : decode cX3_unitsToPoints 107 = .ok (.aload_n 0, 1) := by decide +kernel
theorem dX3_unitsToPoints_108 : decode cX3_unitsToPoints 108 = .ok (.dup, 1) := by decide +kernel
theorem dX3_unitsToPoints_109 : decode cX3_unitsToPoints 109 = .ok (.getfield 74, 3) := by decide +kernel
theorem dX3_unitsToPoints_112 : decode cX3_unitsToPoints 112 = .ok (.iconst 1, 1) := by decide +kernel
theorem dX3_unitsToPoints_113 : decode cX3_unitsToPoints 113 = .ok (.iadd, 1) := by decide +kernel
theorem dX3_unitsToPoints_114 : decode cX3_unitsToPoints 114 = .ok (.putfield 74, 3) := by decide +kernel
theorem dX3_unitsToPoints_117 : decode cX3_unitsToPoints 117 = .ok (.iload_n 1, 1) := by decide +kernel
theorem dX3_unitsToPoints_118 : decode cX3_unitsToPoints 118 = .ok (.iload_n 2, 1) := by decide +kernel
theorem dX3_unitsToPoints_119 : decode cX3_unitsToPoints 119 = .ok (.ifCond .eq 7, 3) := by decide +kernel
theorem dX3_unitsToPoints_122 : decode cX3_unitsToPoints 122 = .ok (.iconst 2, 1) := by decide +kernel
theorem dX3_unitsToPoints_123 : decode cX3_unitsToPoints 123 = .ok (.goto 4, 3) := by decide +kernel
theorem dX3_unitsToPoints_126 : decode cX3_unitsToPoints 126 = .ok (.iconst 1, 1) := by decide +kernel
theorem dX3_unitsToPoints_127 : decode cX3_unitsToPoints 127 = .ok (.iadd, 1) := by decide +kernel
theorem dX3_unitsToPoints_128 : decode cX3_unitsToPoints 128 = .ok (.istore_n 1, 1) := by decide +kernel
theorem dX3_unitsToPoints_129 : decode cX3_unitsToPoints 129 = .ok (.goto (-122), 3) := by decide +kernel
theorem dX3_unitsToPoints_132 : decode cX3_unitsToPoints 132 = .ok (.return_, 1) := by decide +kernel
set_option maxRecDepth 20000 in
theorem ggX3_pointsToUnits_X3_addUnits : GoodIn wsX3_pointsToUnits wsX3_addUnits := goodIn_r _ [8, 9, 10, 1, 11, 12, 13, 14, 15, 16, 17, 18, 19, 20, 21, 22, 23, 24, 25, 26, 27, 28, 29, 30] (by decide +kernel) (by decide +kernel)
set_option maxRecDepth 20000 in
theorem gX3_pointsToUnits_X3_addUnits : GoodIn wsX3_pointsToUnits (wsV RX3 84 RX3 yX3_addUnits wsX3_addUnits) := goodIn_app (goodIn_of _ (by decide +kernel)) ggX3_pointsToUnits_X3_addUnits
theorem dX3_pointsToUnits_0 : decode cX3_pointsToUnits 0 = .ok (.aload_n 0, 1) := by decide +kernel
theorem dX3_pointsToUnits_1 : decode cX3_pointsToUnits 1 = .ok (.iconst 0, 1) := by decide +kernel
theorem dX3_pointsToUnits_2 : decode cX3_pointsToUnits 2 = .ok (.putfield 71, 3) := by decide +kernel
theorem dX3_pointsToUnits_5 : decode cX3_pointsToUnits 5 = .ok (.iconst 0, 1) := by decide +kernel
theorem dX3_pointsToUnits_6 : decode cX3_pointsToUnits 6 = .ok (.istore_n 1, 1) := by decide +kernel
theorem dX3_pointsToUnits_7 : decode cX3_pointsToUnits 7 = .ok (.iload_n 1, 1) := by decide +kernel
theorem dX3_pointsToUnits_8 : decode cX3_pointsToUnits 8 = .ok (.aload_n 0, 1) := by decide +kernel
theorem dX3_pointsToUnits_9 : decode cX3_pointsToUnits 9 = .ok (.getfield 74, 3) := by decide +kernel
theorem dX3_pointsToUnits_12 : decode cX3_pointsToUnits 12 = .ok (.if_icmp .ge 19, 3) := by decide +kernel
theorem dX3_pointsToUnits_15 : decode cX3_pointsToUnits 15 = .ok (.aload_n 0, 1) := by decide +kernel
theorem dX3_pointsToUnits_16 : decode cX3_pointsToUnits 16 = .ok (.aload_n 0, 1) := by decide +kernel
theorem dX3_pointsToUnits_17 : decode cX3_pointsToUnits 17 = .ok (.getfield 32, 3) := by decide +kernel
theorem dX3_pointsToUnits_20 : decode cX3_pointsToUnits 20 = .ok (.iload_n 1, 1) := by decide +kernel
theorem dX3_pointsToUnits_21 : decode cX3_pointsToUnits 21 = .ok (.iaload, 1) := by decide +kernel
theorem dX3_pointsToUnits_22 : decode cX3_pointsToUnits 22 = .ok (.invokevirtual 84, 3) := by decide +kernel
theorem dX3_pointsToUnits_25 : decode cX3_pointsToUnits 25 = .ok (.iinc 1 1, 3) := by decide +kernel
theorem dX3_pointsToUnits_28 : decode cX3_pointsToUnits 28 = .ok (.goto (-21), 3) := by decide +kernel
theorem dX3_pointsToUnits_31 : decode cX3_pointsToUnits 31 = .ok (.return_, 1) := by decide +kernel
set_option maxRecDepth 20000 in
theorem ggX3_take_X3_sortOf : GoodIn wsX3_take wsX3_sortOf := goodIn_r _ [9, 10, 11, 48, 49, 50, 51, 52, 53, 54, 55, 56, 57, 58, 59, 60, 61, 62, 63, 64, 65] (by decide +kernel) (by decide +kernel)
set_option maxRecDepth 20000 in
theorem gX3_take_X3_sortOf : GoodIn wsX3_take (wsV RX3 88 RX3 yX3_sortOf wsX3_sortOf) := goodIn_app (goodIn_of _ (by decide +kernel)) ggX3_take_X3_sortOf
set_option maxRecDepth 20000 in
theorem ggX3_take_X3_manyOf : GoodIn wsX3_take wsX3_manyOf := goodIn_r _ [15, 16, 10, 48, 49, 50, 51, 52, 53, 54, 55, 56, 57, 58, 59, 60, 61, 62, 63, 64, 65] (by decide +kernel) (by decide +kernel)
set_option maxRecDepth 20000 in
theorem gX3_take_X3_manyOf : GoodIn wsX3_take (wsV RX3 91 RX3 yX3_manyOf wsX3_manyOf) := goodIn_app (goodIn_of _ (by decide +kernel)) ggX3_take_X3_manyOf
set_option maxRecDepth 20000 in
theorem ggX3_take_X3_item : GoodIn wsX3_take wsX3_item := goodIn_r _ [20, 21, 10, 48, 49, 50, 51, 52, 53, 54, 55, 56, 57, 58, 59, 60, 61, 62, 63, 64, 65] (by decide +kernel) (by decide +kernel)
set_option maxRecDepth 20000 in
theorem gX3_take_X3_item : GoodIn wsX3_take (wsV RX3 94 RX3 yX3_item wsX3_item) := goodIn_app (goodIn_of _ (by decide +kernel)) ggX3_take_X3_item
set_option maxRecDepth 20000 in
theorem ggX3_take_X3_unitsToPoints : GoodIn wsX3_take wsX3_unitsToPoints := goodIn_r _ [25, 3, 1, 2, 4, 26, 27, 28, 29, 30, 8, 31, 32, 33, 34, 35, 36, 37, 38, 39, 48, 49, 50, 51, 52, 53, 54, 55, 56, 57, 58, 59, 60, 61, 62, 63, 64, 65] (by decide +kernel) (by decide +kernel)
set_option maxRecDepth 20000 in
theorem gX3_take_X3_unitsToPoints : GoodIn wsX3_take (wsV RX3 98 RX3 yX3_unitsToPoints wsX3_unitsToPoints) := goodIn_app (goodIn_of _ (by decide +kernel)) ggX3_take_X3_unitsToPoints
set_option maxRecDepth 20000 in
theorem ggX3_take_X3_pointsToUnits : GoodIn wsX3_take wsX3_pointsToUnits := goodIn_r _ [43, 1, 3, 4, 44, 45, 46, 8, 47, 26, 2, 27, 28, 48, 49, 50, 51, 52, 53, 54, 55, 56, 57, 58, 59, 60, 61, 62, 63, 64, 65] (by decide +kernel) (by decide +kernel)
set_option maxRecDepth 20000 in
theorem gX3_take_X3_pointsToUnits : GoodIn wsX3_take (wsV RX3 101 RX3 yX3_pointsToUnits wsX3_pointsToUnits) := goodIn_app (goodIn_of _ (by decide +kernel)) ggX3_take_X3_pointsToUnits
theorem dX3_take_0 : decode cX3_take 0 = .ok (.aload_n 0, 1) := by decide +kernel
theorem dX3_take_1 : decode cX3_take 1 = .ok (.iload_n 1, 1) := by decide +kernel
theorem dX3_take_2 : decode cX3_take 2 = .ok (.invokevirtual 88, 3) := by decide +kernel
theorem dX3_take_5 : decode cX3_take 5 = .ok (.ifCond .ne 47, 3) := by decide +kernel
theorem dX3_take_8 : decode cX3_take 8 = .ok (.aload_n 0, 1) := by decide +kernel
theorem dX3_take_9 : decode cX3_take 9 = .ok (.aload_n 0, 1) := by decide +kernel
theorem dX3_take_10 : decode cX3_take 10 = .ok (.iload_n 1, 1) := by decide +kernel
theorem dX3_take_11 : decode cX3_take 11 = .ok (.invokevirtual 91, 3) := by decide +kernel
theorem dX3_take_14 : decode cX3_take 14 = .ok (.putfield 71, 3) := by decide +kernel
theorem dX3_take_17 : decode cX3_take 17 = .ok (.iconst 0, 1) := by decide +kernel
theorem dX3_take_18 : decode cX3_take 18 = .ok (.istore_n 2, 1) := by decide +kernel
theorem dX3_take_19 : decode cX3_take 19 = .ok (.iload_n 2, 1) := by decide +kernel
theorem dX3_take_20 : decode cX3_take 20 = .ok (.aload_n 0, 1) := by decide +kernel
theorem dX3_take_21 : decode cX3_take 21 = .ok (.getfield 71, 3) := by decide +kernel
theorem dX3_take_24 : decode cX3_take 24 = .ok (.if_icmp .ge 21, 3) := by decide +kernel
theorem dX3_take_27 : decode cX3_take 27 = .ok (.aload_n 0, 1) := by decide +kernel
theorem dX3_take_28 : decode cX3_take 28 = .ok (.getfield 35, 3) := by decide +kernel
theorem dX3_take_31 : decode cX3_take 31 = .ok (.iload_n 2, 1) := by decide +kernel
theorem dX3_take_32 : decode cX3_take 32 = .ok (.aload_n 0, 1) := by decide +kernel
theorem dX3_take_33 : decode cX3_take 33 = .ok (.iload_n 1, 1) := by decide +kernel
theorem dX3_take_34 : decode cX3_take 34 = .ok (.iload_n 2, 1) := by decide +kernel
theorem dX3_take_35 : decode cX3_take 35 = .ok (.invokevirtual 94, 3) := by decide +kernel
theorem dX3_take_38 : decode cX3_take 38 = .ok (.iastore, 1) := by decide +kernel
theorem dX3_take_39 : decode cX3_take 39 = .ok (.iinc 2 1, 3) := by decide +kernel
theorem dX3_take_42 : decode cX3_take 42 = .ok (.goto (-23), 3) := by decide +kernel
theorem dX3_take_45 : decode cX3_take 45 = .ok (.aload_n 0, 1) := by decide +kernel
theorem dX3_take_46 : decode cX3_take 46 = .ok (.invokevirtual 98, 3) := by decide +kernel
theorem dX3_take_49 : decode cX3_take 49 = .ok (.goto 44, 3) := by decide +kernel
theorem dX3_take_52 : decode cX3_take 52 = .ok (.aload_n 0, 1) := by decide +kernel
theorem dX3_take_53 : decode cX3_take 53 = .ok (.aload_n 0, 1) := by decide +kernel
theorem dX3_take_54 : decode cX3_take 54 = .ok (.iload_n 1, 1) := by decide +kernel
theorem dX3_take_55 : decode cX3_take 55 = .ok (.invokevirtual 91, 3) := by decide +kernel
theorem dX3_take_58 : decode cX3_take 58 = .ok (.putfield 74, 3) := by decide +kernel
theorem dX3_take_61 : decode cX3_take 61 = .ok (.iconst 0, 1) := by decide +kernel
theorem dX3_take_62 : decode cX3_take 62 = .ok (.istore_n 2, 1) := by decide +kernel
theorem dX3_take_63 : decode cX3_take 63 = .ok (.iload_n 2, 1) := by decide +kernel
theorem dX3_take_64 : decode cX3_take 64 = .ok (.aload_n 0, 1) := by decide +kernel
theorem dX3_take_65 : decode cX3_take 65 = .ok (.getfield 74, 3) := by decide +kernel
theorem dX3_take_68 : decode cX3_take 68 = .ok (.if_icmp .ge 21, 3) := by decide +kernel
theorem dX3_take_71 : decode cX3_take 71 = .ok (.aload_n 0, 1) := by decide +kernel
theorem dX3_take_72 : decode cX3_take 72 = .ok (.getfield 32, 3) := by decide +kernel
theorem dX3_take_75 : decode cX3_take 75 = .ok (.iload_n 2, 1) := by decide +kernel
theorem dX3_take_76 : decode cX3_take 76 = .ok (.aload_n 0, 1) := by decide +kernel
theorem dX3_take_77 : decode cX3_take 77 = .ok (.iload_n 1, 1) := by decide +kernel
theorem dX3_take_78 : decode cX3_take 78 = .ok (.iload_n 2, 1) := by decide +kernel
theorem dX3_take_79 : decode cX3_take 79 = .ok (.invokevirtual 94, 3) := by decide +kernel
theorem dX3_take_82 : decode cX3_take 82 = .ok (.iastore, 1) := by decide +kernel
theorem dX3_take_83 : decode cX3_take 83 = .ok (.iinc 2 1, 3) := by decide +kernel
theorem dX3_take_86 : decode cX3_take 86 = .ok (.goto (-23), 3) := by decide +kernel
theorem dX3_take_89 : decode cX3_take 89 = .ok (.aload_n 0, 1) := by decide +kernel
theorem dX3_take_90 : decode cX3_take 90 = .ok (.invokevirtual 101, 3) := by decide +kernel
theorem dX3_take_93 : decode cX3_take 93 = .ok (.return_, 1) := by decide +kernel
set_option maxRecDepth 20000 in
theorem ggX3_point_X3_isPoint : GoodIn wsX3_point wsX3_isPoint := goodIn_r _ [10, 11, 12, 13, 9, 14] (by decide +kernel) (by decide +kernel)
set_option maxRecDepth 20000 in
theorem gX3_point_X3_isPoint : GoodIn wsX3_point (va_wsS RX3 104 yX3_isPoint wsX3_isPoint) := goodIn_app (goodIn_of _ (by decide +kernel)) ggX3_point_X3_isPoint
set_option maxRecDepth 20000 in
theorem ggX3_point_X3_no : GoodIn wsX3_point wsX3_no := goodIn_r _ [18, 19, 30, 31, 32, 33, 34, 35, 36, 37, 38, 39, 40, 41, 42, 43, 44, 45, 46, 47] (by decide +kernel) (by decide +kernel)
set_option maxRecDepth 20000 in
theorem gX3_point_X3_no : GoodIn wsX3_point (wsV RX3 56 RX3 yX3_no wsX3_no) := goodIn_app (goodIn_of _ (by decide +kernel)) ggX3_point_X3_no
set_option maxRecDepth 20000 in
theorem ggX3_point_X3_addUnits : GoodIn wsX3_point wsX3_addUnits := goodIn_r _ [23, 3, 6, 4, 24, 25, 30, 31, 32, 33, 34, 35, 36, 37, 38, 39, 40, 41, 42, 43, 44, 45, 46, 47] (by decide +kernel) (by decide +kernel)
set_option maxRecDepth 20000 in
theorem gX3_point_X3_addUnits : GoodIn wsX3_point (wsV RX3 84 RX3 yX3_addUnits wsX3_addUnits) := goodIn_app (goodIn_of _ (by decide +kernel)) ggX3_point_X3_addUnits
set_option maxRecDepth 20000 in
theorem ggX3_point_X3_yes : GoodIn wsX3_point wsX3_yes := goodIn_r _ [29, 19, 30, 31, 32, 33, 34, 35, 36, 37, 38, 39, 40, 41, 42, 43, 44, 45, 46, 47] (by decide +kernel) (by decide +kernel)
set_option maxRecDepth 20000 in
theorem gX3_point_X3_yes : GoodIn wsX3_point (wsV RX3 67 RX3 yX3_yes wsX3_yes) := goodIn_app (goodIn_of _ (by decide +kernel)) ggX3_point_X3_yes
theorem dX3_point_0 : decode cX3_point 0 = .ok (.iload_n 1, 1) := by decide +kernel
theorem dX3_point_1 : decode cX3_point 1 = .ok (.invokestatic 104, 3) := by decide +kernel
theorem dX3_point_4 : decode cX3_point 4 = .ok (.ifCond .ne 6, 3) := by decide +kernel
theorem dX3_point_7 : decode cX3_point 7 = .ok (.ldc 107, 2) := by decide +kernel
theorem dX3_point_9 : decode cX3_point 9 = .ok (.ireturn, 1) := by decide +kernel
theorem dX3_point_10 : decode cX3_point 10 = .ok (.aload_n 0, 1) := by decide +kernel
theorem dX3_point_11 : decode cX3_point 11 = .ok (.getfield 108, 3) := by decide +kernel
theorem dX3_point_14 : decode cX3_point 14 = .ok (.iload_n 1, 1) := by decide +kernel
theorem dX3_point_15 : decode cX3_point 15 = .ok (.ldc 70, 2) := by decide +kernel
theorem dX3_point_17 : decode cX3_point 17 = .ok (.if_icmp .ge 7, 3) := by decide +kernel
theorem dX3_point_20 : decode cX3_point 20 = .ok (.iconst 1, 1) := by decide +kernel
theorem dX3_point_21 : decode cX3_point 21 = .ok (.goto 4, 3) := by decide +kernel
theorem dX3_point_24 : decode cX3_point 24 = .ok (.iconst 2, 1) := by decide +kernel
theorem dX3_point_25 : decode cX3_point 25 = .ok (.iadd, 1) := by decide +kernel
theorem dX3_point_26 : decode cX3_point 26 = .ok (.bipush 60, 2) := by decide +kernel
theorem dX3_point_28 : decode cX3_point 28 = .ok (.if_icmp .le 10, 3) := by decide +kernel
theorem dX3_point_31 : decode cX3_point 31 = .ok (.aload_n 0, 1) := by decide +kernel
theorem dX3_point_32 : decode cX3_point 32 = .ok (.bipush 6, 2) := by decide +kernel
theorem dX3_point_34 : decode cX3_point 34 = .ok (.invokevirtual 56, 3) := by decide +kernel
theorem dX3_point_37 : decode cX3_point 37 = .ok (.ireturn, 1) := by decide +kernel
theorem dX3_point_38 : decode cX3_point 38 = .ok (.aload_n 0, 1) := by decide +kernel
theorem dX3_point_39 : decode cX3_point 39 = .ok (.iconst 0, 1) := by decide +kernel
theorem dX3_point_40 : decode cX3_point 40 = .ok (.putfield 71, 3) := by decide +kernel
theorem dX3_point_43 : decode cX3_point 43 = .ok (.aload_n 0, 1) := by decide +kernel
theorem dX3_point_44 : decode cX3_point 44 = .ok (.iload_n 1, 1) := by decide +kernel
theorem dX3_point_45 : decode cX3_point 45 = .ok (.invokevirtual 84, 3) := by decide +kernel
theorem dX3_point_48 : decode cX3_point 48 = .ok (.iconst 0, 1) := by decide +kernel
theorem dX3_point_49 : decode cX3_point 49 = .ok (.istore_n 2, 1) := by decide +kernel
theorem dX3_point_50 : decode cX3_point 50 = .ok (.iload_n 2, 1) := by decide +kernel
theorem dX3_point_51 : decode cX3_point 51 = .ok (.aload_n 0, 1) := by decide +kernel
theorem dX3_point_52 : decode cX3_point 52 = .ok (.getfield 71, 3) := by decide +kernel
theorem dX3_point_55 : decode cX3_point 55 = .ok (.if_icmp .ge 34, 3) := by decide +kernel
theorem dX3_point_58 : decode cX3_point 58 = .ok (.aload_n 0, 1) := by decide +kernel
theorem dX3_point_59 : decode cX3_point 59 = .ok (.getfield 25, 3) := by decide +kernel
theorem dX3_point_62 : decode cX3_point 62 = .ok (.aload_n 0, 1) := by decide +kernel
theorem dX3_point_63 : decode cX3_point 63 = .ok (.getfield 108, 3) := by decide +kernel
theorem dX3_point_66 : decode cX3_point 66 = .ok (.aload_n 0, 1) := by decide +kernel
theorem dX3_point_67 : decode cX3_point 67 = .ok (.getfield 35, 3) := by decide +kernel
theorem dX3_point_70 : decode cX3_point 70 = .ok (.iload_n 2, 1) := by decide +kernel
theorem dX3_point_71 : decode cX3_point 71 = .ok (.iaload, 1) := by decide +kernel
theorem dX3_point_72 : decode cX3_point 72 = .ok (.iastore, 1) := by decide +kernel
theorem dX3_point_73 : decode cX3_point 73 = .ok (.aload_n 0, 1) := by decide +kernel
theorem dX3_point_74 : decode cX3_point 74 = .ok (.dup, 1) := by decide +kernel
theorem dX3_point_75 : decode cX3_point 75 = .ok (.getfield 108, 3) := by decide +kernel
theorem dX3_point_78 : decode cX3_point 78 = .ok (.iconst 1, 1) := by decide +kernel
theorem dX3_point_79 : decode cX3_point 79 = .ok (.iadd, 1) := by decide +kernel
theorem dX3_point_80 : decode cX3_point 80 = .ok (.putfield 108, 3) := by decide +kernel
theorem dX3_point_83 : decode cX3_point 83 = .ok (.iinc 2 1, 3) := by decide +kernel
theorem dX3_point_86 : decode cX3_point 86 = .ok (.goto (-36), 3) := by decide +kernel
theorem dX3_point_89 : decode cX3_point 89 = .ok (.aload_n 0, 1) := by decide +kernel
theorem dX3_point_90 : decode cX3_point 90 = .ok (.aload_n 0, 1) := by decide +kernel
theorem dX3_point_91 : decode cX3_point 91 = .ok (.getfield 108, 3) := by decide +kernel
theorem dX3_point_94 : decode cX3_point 94 = .ok (.invokevirtual 67, 3) := by decide +kernel
theorem dX3_point_97 : decode cX3_point 97 = .ok (.ireturn, 1) := by decide +kernel
set_option maxRecDepth 20000 in
theorem ggX3_unit_X3_within : GoodIn wsX3_unit wsX3_within := goodIn_r _ [8] (by decide +kernel) (by decide +kernel)
set_option maxRecDepth 20000 in
theorem gX3_unit_X3_within : GoodIn wsX3_unit (va_wsS RX3 44 yX3_within wsX3_within) := goodIn_app (goodIn_of _ (by decide +kernel)) ggX3_unit_X3_within
set_option maxRecDepth 20000 in
theorem ggX3_unit_X3_no : GoodIn wsX3_unit wsX3_no := goodIn_r _ [12, 13, 18, 19, 20, 21, 22, 23, 24, 25, 26, 27, 28, 29, 30, 31, 32, 33, 34, 35] (by decide +kernel) (by decide +kernel)
set_option maxRecDepth 20000 in
theorem gX3_unit_X3_no : GoodIn wsX3_unit (wsV RX3 56 RX3 yX3_no wsX3_no) := goodIn_app (goodIn_of _ (by decide +kernel)) ggX3_unit_X3_no
set_option maxRecDepth 20000 in
theorem ggX3_unit_X3_yes : GoodIn wsX3_unit wsX3_yes := goodIn_r _ [17, 13, 18, 19, 20, 21, 22, 23, 24, 25, 26, 27, 28, 29, 30, 31, 32, 33, 34, 35] (by decide +kernel) (by decide +kernel)
set_option maxRecDepth 20000 in
theorem gX3_unit_X3_yes : GoodIn wsX3_unit (wsV RX3 67 RX3 yX3_yes wsX3_yes) := goodIn_app (goodIn_of _ (by decide +kernel)) ggX3_unit_X3_yes
theorem dX3_unit_0 : decode cX3_unit 0 = .ok (.iload_n 1, 1) := by decide +kernel
theorem dX3_unit_1 : decode cX3_unit 1 = .ok (.iconst 0, 1) := by decide +kernel
theorem dX3_unit_2 : decode cX3_unit 2 = .ok (.ldc 111, 2) := by decide +kernel
theorem dX3_unit_4 : decode cX3_unit 4 = .ok (.invokestatic 44, 3) := by decide +kernel
theorem dX3_unit_7 : decode cX3_unit 7 = .ok (.ifCond .ne 6, 3) := by decide +kernel
theorem dX3_unit_10 : decode cX3_unit 10 = .ok (.ldc 107, 2) := by decide +kernel
theorem dX3_unit_12 : decode cX3_unit 12 = .ok (.ireturn, 1) := by decide +kernel
theorem dX3_unit_13 : decode cX3_unit 13 = .ok (.aload_n 0, 1) := by decide +kernel
theorem dX3_unit_14 : decode cX3_unit 14 = .ok (.getfield 108, 3) := by decide +kernel
theorem dX3_unit_17 : decode cX3_unit 17 = .ok (.bipush 60, 2) := by decide +kernel
theorem dX3_unit_19 : decode cX3_unit 19 = .ok (.if_icmp .ne 10, 3) := by decide +kernel
theorem dX3_unit_22 : decode cX3_unit 22 = .ok (.aload_n 0, 1) := by decide +kernel
theorem dX3_unit_23 : decode cX3_unit 23 = .ok (.bipush 6, 2) := by decide +kernel
theorem dX3_unit_25 : decode cX3_unit 25 = .ok (.invokevirtual 56, 3) := by decide +kernel
theorem dX3_unit_28 : decode cX3_unit 28 = .ok (.ireturn, 1) := by decide +kernel
theorem dX3_unit_29 : decode cX3_unit 29 = .ok (.aload_n 0, 1) := by decide +kernel
theorem dX3_unit_30 : decode cX3_unit 30 = .ok (.getfield 25, 3) := by decide +kernel
theorem dX3_unit_33 : decode cX3_unit 33 = .ok (.aload_n 0, 1) := by decide +kernel
theorem dX3_unit_34 : decode cX3_unit 34 = .ok (.getfield 108, 3) := by decide +kernel
theorem dX3_unit_37 : decode cX3_unit 37 = .ok (.iload_n 1, 1) := by decide +kernel
theorem dX3_unit_38 : decode cX3_unit 38 = .ok (.iastore, 1) := by decide +kernel
theorem dX3_unit_39 : decode cX3_unit 39 = .ok (.aload_n 0, 1) := by decide +kernel
theorem dX3_unit_40 : decode cX3_unit 40 = .ok (.dup, 1) := by decide +kernel
theorem dX3_unit_41 : decode cX3_unit 41 = .ok (.getfield 108, 3) := by decide +kernel
theorem dX3_unit_44 : decode cX3_unit 44 = .ok (.iconst 1, 1) := by decide +kernel
theorem dX3_unit_45 : decode cX3_unit 45 = .ok (.iadd, 1) := by decide +kernel
theorem dX3_unit_46 : decode cX3_unit 46 = .ok (.putfield 108, 3) := by decide +kernel
theorem dX3_unit_49 : decode cX3_unit 49 = .ok (.aload_n 0, 1) := by decide +kernel
theorem dX3_unit_50 : decode cX3_unit 50 = .ok (.aload_n 0, 1) := by decide +kernel
theorem dX3_unit_51 : decode cX3_unit 51 = .ok (.getfield 108, 3) := by decide +kernel
theorem dX3_unit_54 : decode cX3_unit 54 = .ok (.invokevirtual 67, 3) := by decide +kernel
theorem dX3_unit_57 : decode cX3_unit 57 = .ok (.ireturn, 1) := by decide +kernel
theorem dX3_fresh_0 : decode cX3_fresh 0 = .ok (.aload_n 0, 1) := by decide +kernel
theorem dX3_fresh_1 : decode cX3_fresh 1 = .ok (.getfield 108, 3) := by decide +kernel
theorem dX3_fresh_4 : decode cX3_fresh 4 = .ok (.istore_n 1, 1) := by decide +kernel
theorem dX3_fresh_5 : decode cX3_fresh 5 = .ok (.aload_n 0, 1) := by decide +kernel
theorem dX3_fresh_6 : decode cX3_fresh 6 = .ok (.iconst 0, 1) := by decide +kernel
theorem dX3_fresh_7 : decode cX3_fresh 7 = .ok (.putfield 108, 3) := by decide +kernel
theorem dX3_fresh_10 : decode cX3_fresh 10 = .ok (.iload_n 1, 1) := by decide +kernel
theorem dX3_fresh_11 : decode cX3_fresh 11 = .ok (.ireturn, 1) := by decide +kernel
set_option maxRecDepth 20000 in
theorem ggX3_lay_X3_isText : GoodIn wsX3_lay wsX3_isText := goodIn_r _ [11, 12, 13, 10, 14] (by decide +kernel) (by decide +kernel)
set_option maxRecDepth 20000 in
theorem gX3_lay_X3_isText : GoodIn wsX3_lay (va_wsS RX3 112 yX3_isText wsX3_isText) := goodIn_app (goodIn_of _ (by decide +kernel)) ggX3_lay_X3_isText
set_option maxRecDepth 20000 in
theorem ggX3_lay_X3_within : GoodIn wsX3_lay wsX3_within := goodIn_r _ [14] (by decide +kernel) (by decide +kernel)
set_option maxRecDepth 20000 in
theorem gX3_lay_X3_within : GoodIn wsX3_lay (va_wsS RX3 44 yX3_within wsX3_within) := goodIn_app (goodIn_of _ (by decide +kernel)) ggX3_lay_X3_within
set_option maxRecDepth 20000 in
theorem ggX3_lay_X3_become : GoodIn wsX3_lay wsX3_become := goodIn_r _ [18, 19, 20, 21, 22, 23, 24, 25, 10, 26, 27, 28, 29, 30, 31, 32, 33, 49, 50, 51, 52, 53, 54, 55, 56, 57, 58, 59, 60, 61, 62, 63, 64, 65, 66] (by decide +kernel) (by decide +kernel)
set_option maxRecDepth 20000 in
theorem gX3_lay_X3_become : GoodIn wsX3_lay (wsV RX3 115 RX3 yX3_become wsX3_become) := goodIn_app (goodIn_of _ (by decide +kernel)) ggX3_lay_X3_become
set_option maxRecDepth 20000 in
theorem ggX3_lay_X3_unitsToPoints : GoodIn wsX3_lay wsX3_unitsToPoints := goodIn_r _ [37, 7, 3, 4, 6, 38, 39, 40, 41, 42, 10, 43, 44, 12, 13, 14, 45, 46, 47, 48, 49, 50, 51, 52, 53, 54, 55, 56, 57, 58, 59, 60, 61, 62, 63, 64, 65, 66] (by decide +kernel) (by decide +kernel)
set_option maxRecDepth 20000 in
theorem gX3_lay_X3_unitsToPoints : GoodIn wsX3_lay (wsV RX3 98 RX3 yX3_unitsToPoints wsX3_unitsToPoints) := goodIn_app (goodIn_of _ (by decide +kernel)) ggX3_lay_X3_unitsToPoints
theorem dX3_lay_0 : decode cX3_lay 0 = .ok (.iload_n 1, 1) := by decide +kernel
theorem dX3_lay_1 : decode cX3_lay 1 = .ok (.invokestatic 112, 3) := by decide +kernel
theorem dX3_lay_4 : decode cX3_lay 4 = .ok (.ifCond .eq 12, 3) := by decide +kernel
theorem dX3_lay_7 : decode cX3_lay 7 = .ok (.iload_n 2, 1) := by decide +kernel
theorem dX3_lay_8 : decode cX3_lay 8 = .ok (.iconst 0, 1) := by decide +kernel
theorem dX3_lay_9 : decode cX3_lay 9 = .ok (.iconst 2, 1) := by decide +kernel
theorem dX3_lay_10 : decode cX3_lay 10 = .ok (.invokestatic 44, 3) := by decide +kernel
theorem dX3_lay_13 : decode cX3_lay 13 = .ok (.ifCond .ne 6, 3) := by decide +kernel
theorem dX3_lay_16 : decode cX3_lay 16 = .ok (.ldc 107, 2) := by decide +kernel
theorem dX3_lay_18 : decode cX3_lay 18 = .ok (.ireturn, 1) := by decide +kernel
theorem dX3_lay_19 : decode cX3_lay 19 = .ok (.aload_n 0, 1) := by decide +kernel
theorem dX3_lay_20 : decode cX3_lay 20 = .ok (.aload_n 0, 1) := by decide +kernel
theorem dX3_lay_21 : decode cX3_lay 21 = .ok (.getfield 108, 3) := by decide +kernel
theorem dX3_lay_24 : decode cX3_lay 24 = .ok (.putfield 71, 3) := by decide +kernel
theorem dX3_lay_27 : decode cX3_lay 27 = .ok (.iconst 0, 1) := by decide +kernel
theorem dX3_lay_28 : decode cX3_lay 28 = .ok (.istore_n 3, 1) := by decide +kernel
theorem dX3_lay_29 : decode cX3_lay 29 = .ok (.iload_n 3, 1) := by decide +kernel
theorem dX3_lay_30 : decode cX3_lay 30 = .ok (.aload_n 0, 1) := by decide +kernel
theorem dX3_lay_31 : decode cX3_lay 31 = .ok (.getfield 108, 3) := by decide +kernel
theorem dX3_lay_34 : decode cX3_lay 34 = .ok (.if_icmp .ge 39, 3) := by decide +kernel
theorem dX3_lay_37 : decode cX3_lay 37 = .ok (.aload_n 0, 1) := by decide +kernel
theorem dX3_lay_38 : decode cX3_lay 38 = .ok (.getfield 35, 3) := by decide +kernel
theorem dX3_lay_41 : decode cX3_lay 41 = .ok (.iload_n 3, 1) := by decide +kernel
theorem dX3_lay_42 : decode cX3_lay 42 = .ok (.iload_n 2, 1) := by decide +kernel
theorem dX3_lay_43 : decode cX3_lay 43 = .ok (.iconst 2, 1) := by decide +kernel
theorem dX3_lay_44 : decode cX3_lay 44 = .ok (.if_icmp .ne 16, 3) := by decide +kernel
theorem dX3_lay_47 : decode cX3_lay 47 = .ok (.aload_n 0, 1) := by decide +kernel
theorem dX3_lay_48 : decode cX3_lay 48 = .ok (.getfield 25, 3) := by decide +kernel
theorem dX3_lay_51 : decode cX3_lay 51 = .ok (.iload_n 3, 1) := by decide +kernel
theorem dX3_lay_52 : decode cX3_lay 52 = .ok (.iaload, 1) := by decide +kernel
theorem dX3_lay_53 : decode cX3_lay 53 = .ok (.sipush 255, 3) := by decide +kernel
theorem dX3_lay_56 : decode cX3_lay 56 = .ok (.iand, 1) := by decide +kernel
theorem dX3_lay_57 : decode cX3_lay 57 = .ok (.goto 9, 3) := by decide +kernel
theorem dX3_lay_60 : decode cX3_lay 60 = .ok (.aload_n 0, 1) := by decide +kernel
theorem dX3_lay_61 : decode cX3_lay 61 = .ok (.getfield 25, 3) := by decide +kernel
theorem dX3_lay_64 : decode cX3_lay 64 = .ok (.iload_n 3, 1) := by decide +kernel
theorem dX3_lay_65 : decode cX3_lay 65 = .ok (.iaload, 1) := by decide +kernel
theorem dX3_lay_66 : decode cX3_lay 66 = .ok (.iastore, 1) := by decide +kernel
theorem dX3_lay_67 : decode cX3_lay 67 = .ok (.iinc 3 1, 3) := by decide +kernel
theorem dX3_lay_70 : decode cX3_lay 70 = .ok (.goto (-41), 3) := by decide +kernel
theorem dX3_lay_73 : decode cX3_lay 73 = .ok (.iload_n 2, 1) := by decide +kernel
theorem dX3_lay_74 : decode cX3_lay 74 = .ok (.iconst 1, 1) := by decide +kernel
theorem dX3_lay_75 : decode cX3_lay 75 = .ok (.if_icmp .eq 18, 3) := by decide +kernel
theorem dX3_lay_78 : decode cX3_lay 78 = .ok (.aload_n 0, 1) := by decide +kernel
theorem dX3_lay_79 : decode cX3_lay 79 = .ok (.iload_n 1, 1) := by decide +kernel
theorem dX3_lay_80 : decode cX3_lay 80 = .ok (.iload_n 2, 1) := by decide +kernel
theorem dX3_lay_81 : decode cX3_lay 81 = .ok (.aload_n 0, 1) := by decide +kernel
theorem dX3_lay_82 : decode cX3_lay 82 = .ok (.getfield 35, 3) := by decide +kernel
theorem dX3_lay_85 : decode cX3_lay 85 = .ok (.aload_n 0, 1) := by decide +kernel
theorem dX3_lay_86 : decode cX3_lay 86 = .ok (.getfield 71, 3) := by decide +kernel
theorem dX3_lay_89 : decode cX3_lay 89 = .ok (.invokevirtual 115, 3) := by decide +kernel
theorem dX3_lay_92 : decode cX3_lay 92 = .ok (.ireturn, 1) := by decide +kernel
theorem dX3_lay_93 : decode cX3_lay 93 = .ok (.aload_n 0, 1) := by decide +kernel
theorem dX3_lay_94 : decode cX3_lay 94 = .ok (.invokevirtual 98, 3) := by decide +kernel
theorem dX3_lay_97 : decode cX3_lay 97 = .ok (.aload_n 0, 1) := by decide +kernel
theorem dX3_lay_98 : decode cX3_lay 98 = .ok (.iload_n 1, 1) := by decide +kernel
theorem dX3_lay_99 : decode cX3_lay 99 = .ok (.iconst 1, 1) := by decide +kernel
theorem dX3_lay_100 : decode cX3_lay 100 = .ok (.aload_n 0, 1) := by decide +kernel
theorem dX3_lay_101 : decode cX3_lay 101 = .ok (.getfield 32, 3) := by decide +kernel
theorem dX3_lay_104 : decode cX3_lay 104 = .ok (.aload_n 0, 1) := by decide +kernel
theorem dX3_lay_105 : decode cX3_lay 105 = .ok (.getfield 74, 3) := by decide +kernel
theorem dX3_lay_108 : decode cX3_lay 108 = .ok (.invokevirtual 115, 3) := by decide +kernel
theorem dX3_lay_111 : decode cX3_lay 111 = .ok (.ireturn, 1) := by decide +kernel
set_option maxRecDepth 20000 in
theorem ggX3_share_X3_isText : GoodIn wsX3_share wsX3_isText := goodIn_r _ [6, 7, 8, 5, 9] (by decide +kernel) (by decide +kernel)
set_option maxRecDepth 20000 in
theorem gX3_share_X3_isText : GoodIn wsX3_share (va_wsS RX3 112 yX3_isText wsX3_isText) := goodIn_app (goodIn_of _ (by decide +kernel)) ggX3_share_X3_isText
set_option maxRecDepth 20000 in
theorem ggX3_share_X3_sortOf : GoodIn wsX3_share wsX3_sortOf := goodIn_r _ [13, 2, 14, 15, 16, 17, 18, 19, 20, 21, 22, 23, 24, 25, 26, 27, 28, 29, 30, 31, 32] (by decide +kernel) (by decide +kernel)
set_option maxRecDepth 20000 in
theorem gX3_share_X3_sortOf : GoodIn wsX3_share (wsV RX3 88 RX3 yX3_sortOf wsX3_sortOf) := goodIn_app (goodIn_of _ (by decide +kernel)) ggX3_share_X3_sortOf
theorem dX3_share_0 : decode cX3_share 0 = .ok (.iload_n 1, 1) := by decide +kernel
theorem dX3_share_1 : decode cX3_share 1 = .ok (.invokestatic 112, 3) := by decide +kernel
theorem dX3_share_4 : decode cX3_share 4 = .ok (.ifCond .eq 10, 3) := by decide +kernel
theorem dX3_share_7 : decode cX3_share 7 = .ok (.iload_n 2, 1) := by decide +kernel
theorem dX3_share_8 : decode cX3_share 8 = .ok (.invokestatic 112, 3) := by decide +kernel
theorem dX3_share_11 : decode cX3_share 11 = .ok (.ifCond .ne 6, 3) := by decide +kernel
theorem dX3_share_14 : decode cX3_share 14 = .ok (.ldc 107, 2) := by decide +kernel
theorem dX3_share_16 : decode cX3_share 16 = .ok (.ireturn, 1) := by decide +kernel
theorem dX3_share_17 : decode cX3_share 17 = .ok (.aload_n 0, 1) := by decide +kernel
theorem dX3_share_18 : decode cX3_share 18 = .ok (.getfield 7, 3) := by decide +kernel
theorem dX3_share_21 : decode cX3_share 21 = .ok (.iload_n 1, 1) := by decide +kernel
theorem dX3_share_22 : decode cX3_share 22 = .ok (.aload_n 0, 1) := by decide +kernel
theorem dX3_share_23 : decode cX3_share 23 = .ok (.getfield 7, 3) := by decide +kernel
theorem dX3_share_26 : decode cX3_share 26 = .ok (.iload_n 2, 1) := by decide +kernel
theorem dX3_share_27 : decode cX3_share 27 = .ok (.iaload, 1) := by decide +kernel
theorem dX3_share_28 : decode cX3_share 28 = .ok (.iastore, 1) := by decide +kernel
theorem dX3_share_29 : decode cX3_share 29 = .ok (.aload_n 0, 1) := by decide +kernel
theorem dX3_share_30 : decode cX3_share 30 = .ok (.iload_n 1, 1) := by decide +kernel
theorem dX3_share_31 : decode cX3_share 31 = .ok (.invokevirtual 88, 3) := by decide +kernel
theorem dX3_share_34 : decode cX3_share 34 = .ok (.ireturn, 1) := by decide +kernel
set_option maxRecDepth 20000 in
theorem ggX3_nothing_X3_isText : GoodIn wsX3_nothing wsX3_isText := goodIn_r _ [6, 7, 8, 5, 9] (by decide +kernel) (by decide +kernel)
set_option maxRecDepth 20000 in
theorem gX3_nothing_X3_isText : GoodIn wsX3_nothing (va_wsS RX3 112 yX3_isText wsX3_isText) := goodIn_app (goodIn_of _ (by decide +kernel)) ggX3_nothing_X3_isText
set_option maxRecDepth 20000 in
theorem ggX3_nothing_X3_sortOf : GoodIn wsX3_nothing wsX3_sortOf := goodIn_r _ [13, 2, 14, 15, 16, 17, 18, 19, 20, 21, 22, 23, 24, 25, 26, 27, 28, 29, 30, 31, 32] (by decide +kernel) (by decide +kernel)
set_option maxRecDepth 20000 in
theorem gX3_nothing_X3_sortOf : GoodIn wsX3_nothing (wsV RX3 88 RX3 yX3_sortOf wsX3_sortOf) := goodIn_app (goodIn_of _ (by decide +kernel)) ggX3_nothing_X3_sortOf
theorem dX3_nothing_0 : decode cX3_nothing 0 = .ok (.iload_n 1, 1) := by decide +kernel
theorem dX3_nothing_1 : decode cX3_nothing 1 = .ok (.invokestatic 112, 3) := by decide +kernel
theorem dX3_nothing_4 : decode cX3_nothing 4 = .ok (.ifCond .ne 6, 3) := by decide +kernel
theorem dX3_nothing_7 : decode cX3_nothing 7 = .ok (.ldc 107, 2) := by decide +kernel
theorem dX3_nothing_9 : decode cX3_nothing 9 = .ok (.ireturn, 1) := by decide +kernel
theorem dX3_nothing_10 : decode cX3_nothing 10 = .ok (.aload_n 0, 1) := by decide +kernel
theorem dX3_nothing_11 : decode cX3_nothing 11 = .ok (.iload_n 1, 1) := by decide +kernel
theorem dX3_nothing_12 : decode cX3_nothing 12 = .ok (.invokevirtual 88, 3) := by decide +kernel
theorem dX3_nothing_15 : decode cX3_nothing 15 = .ok (.istore_n 2, 1) := by decide +kernel
theorem dX3_nothing_16 : decode cX3_nothing 16 = .ok (.aload_n 0, 1) := by decide +kernel
theorem dX3_nothing_17 : decode cX3_nothing 17 = .ok (.getfield 7, 3) := by decide +kernel
theorem dX3_nothing_20 : decode cX3_nothing 20 = .ok (.iload_n 1, 1) := by decide +kernel
theorem dX3_nothing_21 : decode cX3_nothing 21 = .ok (.iconst (-1), 1) := by decide +kernel
theorem dX3_nothing_22 : decode cX3_nothing 22 = .ok (.iastore, 1) := by decide +kernel
theorem dX3_nothing_23 : decode cX3_nothing 23 = .ok (.iload_n 2, 1) := by decide +kernel
theorem dX3_nothing_24 : decode cX3_nothing 24 = .ok (.ireturn, 1) := by decide +kernel
set_option maxRecDepth 20000 in
theorem ggX3_sort_X3_isText : GoodIn wsX3_sort wsX3_isText := goodIn_r _ [5, 6, 7, 4, 8] (by decide +kernel) (by decide +kernel)
set_option maxRecDepth 20000 in
theorem gX3_sort_X3_isText : GoodIn wsX3_sort (va_wsS RX3 112 yX3_isText wsX3_isText) := goodIn_app (goodIn_of _ (by decide +kernel)) ggX3_sort_X3_isText
set_option maxRecDepth 20000 in
theorem ggX3_sort_X3_sortOf : GoodIn wsX3_sort wsX3_sortOf := goodIn_r _ [12, 13, 14, 15, 16, 17, 18, 19, 20, 21, 22, 23, 24, 25, 26, 27, 28, 29, 30, 31, 32] (by decide +kernel) (by decide +kernel)
set_option maxRecDepth 20000 in
theorem gX3_sort_X3_sortOf : GoodIn wsX3_sort (wsV RX3 88 RX3 yX3_sortOf wsX3_sortOf) := goodIn_app (goodIn_of _ (by decide +kernel)) ggX3_sort_X3_sortOf
theorem dX3_sort_0 : decode cX3_sort 0 = .ok (.iload_n 1, 1) := by decide +kernel
theorem dX3_sort_1 : decode cX3_sort 1 = .ok (.invokestatic 112, 3) := by decide +kernel
theorem dX3_sort_4 : decode cX3_sort 4 = .ok (.ifCond .eq 11, 3) := by decide +kernel
theorem dX3_sort_7 : decode cX3_sort 7 = .ok (.aload_n 0, 1) := by decide +kernel
theorem dX3_sort_8 : decode cX3_sort 8 = .ok (.iload_n 1, 1) := by decide +kernel
theorem dX3_sort_9 : decode cX3_sort 9 = .ok (.invokevirtual 88, 3) := by decide +kernel
theorem dX3_sort_12 : decode cX3_sort 12 = .ok (.goto 5, 3) := by decide +kernel
theorem dX3_sort_15 : decode cX3_sort 15 = .ok (.ldc 107, 2) := by decide +kernel
theorem dX3_sort_17 : decode cX3_sort 17 = .ok (.ireturn, 1) := by decide +kernel
set_option maxRecDepth 20000 in
theorem ggX3_length_X3_isText : GoodIn wsX3_length wsX3_isText := goodIn_r _ [5, 6, 7, 4, 8] (by decide +kernel) (by decide +kernel)
set_option maxRecDepth 20000 in
theorem gX3_length_X3_isText : GoodIn wsX3_length (va_wsS RX3 112 yX3_isText wsX3_isText) := goodIn_app (goodIn_of _ (by decide +kernel)) ggX3_length_X3_isText
set_option maxRecDepth 20000 in
theorem ggX3_length_X3_sortOf : GoodIn wsX3_length wsX3_sortOf := goodIn_r _ [12, 13, 14, 29, 30, 31, 32, 33, 34, 35, 36, 37, 38, 39, 40, 41, 42, 43, 44, 45, 46] (by decide +kernel) (by decide +kernel)
set_option maxRecDepth 20000 in
theorem gX3_length_X3_sortOf : GoodIn wsX3_length (wsV RX3 88 RX3 yX3_sortOf wsX3_sortOf) := goodIn_app (goodIn_of _ (by decide +kernel)) ggX3_length_X3_sortOf
set_option maxRecDepth 20000 in
theorem ggX3_length_X3_no : GoodIn wsX3_length wsX3_no := goodIn_r _ [18, 19, 29, 30, 31, 32, 33, 34, 35, 36, 37, 38, 39, 40, 41, 42, 43, 44, 45, 46] (by decide +kernel) (by decide +kernel)
set_option maxRecDepth 20000 in
theorem gX3_length_X3_no : GoodIn wsX3_length (wsV RX3 56 RX3 yX3_no wsX3_no) := goodIn_app (goodIn_of _ (by decide +kernel)) ggX3_length_X3_no
set_option maxRecDepth 20000 in
theorem ggX3_length_X3_manyOf : GoodIn wsX3_length wsX3_manyOf := goodIn_r _ [23, 24, 13, 29, 30, 31, 32, 33, 34, 35, 36, 37, 38, 39, 40, 41, 42, 43, 44, 45, 46] (by decide +kernel) (by decide +kernel)
set_option maxRecDepth 20000 in
theorem gX3_length_X3_manyOf : GoodIn wsX3_length (wsV RX3 91 RX3 yX3_manyOf wsX3_manyOf) := goodIn_app (goodIn_of _ (by decide +kernel)) ggX3_length_X3_manyOf
set_option maxRecDepth 20000 in
theorem ggX3_length_X3_yes : GoodIn wsX3_length wsX3_yes := goodIn_r _ [28, 19, 29, 30, 31, 32, 33, 34, 35, 36, 37, 38, 39, 40, 41, 42, 43, 44, 45, 46] (by decide +kernel) (by decide +kernel)
set_option maxRecDepth 20000 in
theorem gX3_length_X3_yes : GoodIn wsX3_length (wsV RX3 67 RX3 yX3_yes wsX3_yes) := goodIn_app (goodIn_of _ (by decide +kernel)) ggX3_length_X3_yes
theorem dX3_length_0 : decode cX3_length 0 = .ok (.iload_n 1, 1) := by decide +kernel
theorem dX3_length_1 : decode cX3_length 1 = .ok (.invokestatic 112, 3) := by decide +kernel
theorem dX3_length_4 : decode cX3_length 4 = .ok (.ifCond .ne 6, 3) := by decide +kernel
theorem dX3_length_7 : decode cX3_length 7 = .ok (.ldc 107, 2) := by decide +kernel
theorem dX3_length_9 : decode cX3_length 9 = .ok (.ireturn, 1) := by decide +kernel
theorem dX3_length_10 : decode cX3_length 10 = .ok (.aload_n 0, 1) := by decide +kernel
theorem dX3_length_11 : decode cX3_length 11 = .ok (.iload_n 1, 1) := by decide +kernel
theorem dX3_length_12 : decode cX3_length 12 = .ok (.invokevirtual 88, 3) := by decide +kernel
theorem dX3_length_15 : decode cX3_length 15 = .ok (.iconst (-1), 1) := by decide +kernel
theorem dX3_length_16 : decode cX3_length 16 = .ok (.if_icmp .ne 11, 3) := by decide +kernel
theorem dX3_length_19 : decode cX3_length 19 = .ok (.aload_n 0, 1) := by decide +kernel
theorem dX3_length_20 : decode cX3_length 20 = .ok (.iconst 1, 1) := by decide +kernel
theorem dX3_length_21 : decode cX3_length 21 = .ok (.invokevirtual 56, 3) := by decide +kernel
theorem dX3_length_24 : decode cX3_length 24 = .ok (.goto 12, 3) := by decide +kernel
theorem dX3_length_27 : decode cX3_length 27 = .ok (.aload_n 0, 1) := by decide +kernel
theorem dX3_length_28 : decode cX3_length 28 = .ok (.aload_n 0, 1) := by decide +kernel
theorem dX3_length_29 : decode cX3_length 29 = .ok (.iload_n 1, 1) := by decide +kernel
theorem dX3_length_30 : decode cX3_length 30 = .ok (.invokevirtual 91, 3) := by decide +kernel
theorem dX3_length_33 : decode cX3_length 33 = .ok (.invokevirtual 67, 3) := by decide +kernel
theorem dX3_length_36 : decode cX3_length 36 = .ok (.ireturn, 1) := by decide +kernel
set_option maxRecDepth 20000 in
theorem ggX3_wantsPoints_X3_sortOf : GoodIn wsX3_wantsPoints wsX3_sortOf := goodIn_r _ [5, 6, 7, 8, 9, 10, 11, 12, 13, 14, 15, 16, 17, 18, 19, 20, 21, 22, 23, 24, 25] (by decide +kernel) (by decide +kernel)
set_option maxRecDepth 20000 in
theorem gX3_wantsPoints_X3_sortOf : GoodIn wsX3_wantsPoints (wsV RX3 88 RX3 yX3_sortOf wsX3_sortOf) := goodIn_app (goodIn_of _ (by decide +kernel)) ggX3_wantsPoints_X3_sortOf
theorem dX3_wantsPoints_0 : decode cX3_wantsPoints 0 = .ok (.aload_n 0, 1) := by decide +kernel
theorem dX3_wantsPoints_1 : decode cX3_wantsPoints 1 = .ok (.iload_n 1, 1) := by decide +kernel
theorem dX3_wantsPoints_2 : decode cX3_wantsPoints 2 = .ok (.invokevirtual 88, 3) := by decide +kernel
theorem dX3_wantsPoints_5 : decode cX3_wantsPoints 5 = .ok (.iconst (-1), 1) := by decide +kernel
theorem dX3_wantsPoints_6 : decode cX3_wantsPoints 6 = .ok (.if_icmp .ne 7, 3) := by decide +kernel
theorem dX3_wantsPoints_9 : decode cX3_wantsPoints 9 = .ok (.iconst 1, 1) := by decide +kernel
theorem dX3_wantsPoints_10 : decode cX3_wantsPoints 10 = .ok (.goto 17, 3) := by decide +kernel
theorem dX3_wantsPoints_13 : decode cX3_wantsPoints 13 = .ok (.aload_n 0, 1) := by decide +kernel
theorem dX3_wantsPoints_14 : decode cX3_wantsPoints 14 = .ok (.iload_n 1, 1) := by decide +kernel
theorem dX3_wantsPoints_15 : decode cX3_wantsPoints 15 = .ok (.invokevirtual 88, 3) := by decide +kernel
theorem dX3_wantsPoints_18 : decode cX3_wantsPoints 18 = .ok (.iconst 2, 1) := by decide +kernel
theorem dX3_wantsPoints_19 : decode cX3_wantsPoints 19 = .ok (.if_icmp .ne 7, 3) := by decide +kernel
theorem dX3_wantsPoints_22 : decode cX3_wantsPoints 22 = .ok (.iconst 2, 1) := by decide +kernel
theorem dX3_wantsPoints_23 : decode cX3_wantsPoints 23 = .ok (.goto 4, 3) := by decide +kernel
theorem dX3_wantsPoints_26 : decode cX3_wantsPoints 26 = .ok (.iconst 0, 1) := by decide +kernel
theorem dX3_wantsPoints_27 : decode cX3_wantsPoints 27 = .ok (.ireturn, 1) := by decide +kernel
set_option maxRecDepth 20000 in
theorem ggX3_points_X3_isText : GoodIn wsX3_points wsX3_isText := goodIn_r _ [6, 7, 8, 5, 9] (by decide +kernel) (by decide +kernel)
set_option maxRecDepth 20000 in
theorem gX3_points_X3_isText : GoodIn wsX3_points (va_wsS RX3 112 yX3_isText wsX3_isText) := goodIn_app (goodIn_of _ (by decide +kernel)) ggX3_points_X3_isText
set_option maxRecDepth 20000 in
theorem ggX3_points_X3_wantsPoints : GoodIn wsX3_points wsX3_wantsPoints := goodIn_r _ [13, 14, 15, 16, 5, 17, 18, 19, 69, 70, 71, 72, 73, 74, 75, 76, 77, 78, 79, 80, 81, 82, 83, 84, 85, 86] (by decide +kernel) (by decide +kernel)
set_option maxRecDepth 20000 in
theorem gX3_points_X3_wantsPoints : GoodIn wsX3_points (wsV RX3 119 RX3 yX3_wantsPoints wsX3_wantsPoints) := goodIn_app (goodIn_of _ (by decide +kernel)) ggX3_points_X3_wantsPoints
set_option maxRecDepth 20000 in
theorem ggX3_points_X3_no : GoodIn wsX3_points wsX3_no := goodIn_r _ [23, 24, 69, 70, 71, 72, 73, 74, 75, 76, 77, 78, 79, 80, 81, 82, 83, 84, 85, 86] (by decide +kernel) (by decide +kernel)
set_option maxRecDepth 20000 in
theorem gX3_points_X3_no : GoodIn wsX3_points (wsV RX3 56 RX3 yX3_no wsX3_no) := goodIn_app (goodIn_of _ (by decide +kernel)) ggX3_points_X3_no
set_option maxRecDepth 20000 in
theorem ggX3_points_X3_take : GoodIn wsX3_points wsX3_take := goodIn_r _ [28, 29, 30, 2, 31, 14, 15, 16, 5, 17, 18, 19, 32, 33, 34, 35, 36, 37, 38, 39, 40, 41, 42, 43, 44, 45, 46, 47, 48, 49, 50, 51, 52, 7, 8, 9, 53, 54, 55, 56, 57, 58, 59, 60, 61, 62, 63, 64, 69, 70, 71, 72, 73, 74, 75, 76, 77, 78, 79, 80, 81, 82, 83, 84, 85, 86] (by decide +kernel) (by decide +kernel)
set_option maxRecDepth 20000 in
theorem gX3_points_X3_take : GoodIn wsX3_points (wsV RX3 122 RX3 yX3_take wsX3_take) := goodIn_app (goodIn_of _ (by decide +kernel)) ggX3_points_X3_take
set_option maxRecDepth 20000 in
theorem ggX3_points_X3_yes : GoodIn wsX3_points wsX3_yes := goodIn_r _ [68, 24, 69, 70, 71, 72, 73, 74, 75, 76, 77, 78, 79, 80, 81, 82, 83, 84, 85, 86] (by decide +kernel) (by decide +kernel)
set_option maxRecDepth 20000 in
theorem gX3_points_X3_yes : GoodIn wsX3_points (wsV RX3 67 RX3 yX3_yes wsX3_yes) := goodIn_app (goodIn_of _ (by decide +kernel)) ggX3_points_X3_yes
theorem dX3_points_0 : decode cX3_points 0 = .ok (.iload_n 1, 1) := by decide +kernel
theorem dX3_points_1 : decode cX3_points 1 = .ok (.invokestatic 112, 3) := by decide +kernel
theorem dX3_points_4 : decode cX3_points 4 = .ok (.ifCond .ne 6, 3) := by decide +kernel
theorem dX3_points_7 : decode cX3_points 7 = .ok (.ldc 107, 2) := by decide +kernel
theorem dX3_points_9 : decode cX3_points 9 = .ok (.ireturn, 1) := by decide +kernel
theorem dX3_points_10 : decode cX3_points 10 = .ok (.aload_n 0, 1) := by decide +kernel
theorem dX3_points_11 : decode cX3_points 11 = .ok (.iload_n 1, 1) := by decide +kernel
theorem dX3_points_12 : decode cX3_points 12 = .ok (.invokevirtual 119, 3) := by decide +kernel
theorem dX3_points_15 : decode cX3_points 15 = .ok (.istore_n 2, 1) := by decide +kernel
theorem dX3_points_16 : decode cX3_points 16 = .ok (.iload_n 2, 1) := by decide +kernel
theorem dX3_points_17 : decode cX3_points 17 = .ok (.ifCond .eq 9, 3) := by decide +kernel
theorem dX3_points_20 : decode cX3_points 20 = .ok (.aload_n 0, 1) := by decide +kernel
theorem dX3_points_21 : decode cX3_points 21 = .ok (.iload_n 2, 1) := by decide +kernel
theorem dX3_points_22 : decode cX3_points 22 = .ok (.invokevirtual 56, 3) := by decide +kernel
theorem dX3_points_25 : decode cX3_points 25 = .ok (.ireturn, 1) := by decide +kernel
theorem dX3_points_26 : decode cX3_points 26 = .ok (.aload_n 0, 1) := by decide +kernel
theorem dX3_points_27 : decode cX3_points 27 = .ok (.iload_n 1, 1) := by decide +kernel
theorem dX3_points_28 : decode cX3_points 28 = .ok (.invokevirtual 122, 3) := by decide +kernel
theorem dX3_points_31 : decode cX3_points 31 = .ok (.aload_n 0, 1) := by decide +kernel
theorem dX3_points_32 : decode cX3_points 32 = .ok (.aload_n 0, 1) := by decide +kernel
theorem dX3_points_33 : decode cX3_points 33 = .ok (.getfield 74, 3) := by decide +kernel
theorem dX3_points_36 : decode cX3_points 36 = .ok (.invokevirtual 67, 3) := by decide +kernel
theorem dX3_points_39 : decode cX3_points 39 = .ok (.ireturn, 1) := by decide +kernel
set_option maxRecDepth 20000 in
theorem ggX3_at_X3_isText : GoodIn wsX3_at wsX3_isText := goodIn_r _ [5, 6, 7, 4, 8] (by decide +kernel) (by decide +kernel)
set_option maxRecDepth 20000 in
theorem gX3_at_X3_isText : GoodIn wsX3_at (va_wsS RX3 112 yX3_isText wsX3_isText) := goodIn_app (goodIn_of _ (by decide +kernel)) ggX3_at_X3_isText
set_option maxRecDepth 20000 in
theorem ggX3_at_X3_sortOf : GoodIn wsX3_at wsX3_sortOf := goodIn_r _ [12, 13, 14, 34, 35, 36, 37, 38, 39, 40, 41, 42, 43, 44, 45, 46, 47, 48, 49, 50, 51] (by decide +kernel) (by decide +kernel)
set_option maxRecDepth 20000 in
theorem gX3_at_X3_sortOf : GoodIn wsX3_at (wsV RX3 88 RX3 yX3_sortOf wsX3_sortOf) := goodIn_app (goodIn_of _ (by decide +kernel)) ggX3_at_X3_sortOf
set_option maxRecDepth 20000 in
theorem ggX3_at_X3_no : GoodIn wsX3_at wsX3_no := goodIn_r _ [18, 19, 34, 35, 36, 37, 38, 39, 40, 41, 42, 43, 44, 45, 46, 47, 48, 49, 50, 51] (by decide +kernel) (by decide +kernel)
set_option maxRecDepth 20000 in
theorem gX3_at_X3_no : GoodIn wsX3_at (wsV RX3 56 RX3 yX3_no wsX3_no) := goodIn_app (goodIn_of _ (by decide +kernel)) ggX3_at_X3_no
set_option maxRecDepth 20000 in
theorem ggX3_at_X3_manyOf : GoodIn wsX3_at wsX3_manyOf := goodIn_r _ [23, 24, 13, 34, 35, 36, 37, 38, 39, 40, 41, 42, 43, 44, 45, 46, 47, 48, 49, 50, 51] (by decide +kernel) (by decide +kernel)
set_option maxRecDepth 20000 in
theorem gX3_at_X3_manyOf : GoodIn wsX3_at (wsV RX3 91 RX3 yX3_manyOf wsX3_manyOf) := goodIn_app (goodIn_of _ (by decide +kernel)) ggX3_at_X3_manyOf
set_option maxRecDepth 20000 in
theorem ggX3_at_X3_within : GoodIn wsX3_at wsX3_within := goodIn_r _ [8] (by decide +kernel) (by decide +kernel)
set_option maxRecDepth 20000 in
theorem gX3_at_X3_within : GoodIn wsX3_at (va_wsS RX3 44 yX3_within wsX3_within) := goodIn_app (goodIn_of _ (by decide +kernel)) ggX3_at_X3_within
set_option maxRecDepth 20000 in
theorem ggX3_at_X3_item : GoodIn wsX3_at wsX3_item := goodIn_r _ [28, 29, 13, 34, 35, 36, 37, 38, 39, 40, 41, 42, 43, 44, 45, 46, 47, 48, 49, 50, 51] (by decide +kernel) (by decide +kernel)
set_option maxRecDepth 20000 in
theorem gX3_at_X3_item : GoodIn wsX3_at (wsV RX3 94 RX3 yX3_item wsX3_item) := goodIn_app (goodIn_of _ (by decide +kernel)) ggX3_at_X3_item
set_option maxRecDepth 20000 in
theorem ggX3_at_X3_yes : GoodIn wsX3_at wsX3_yes := goodIn_r _ [33, 19, 34, 35, 36, 37, 38, 39, 40, 41, 42, 43, 44, 45, 46, 47, 48, 49, 50, 51] (by decide +kernel) (by decide +kernel)
set_option maxRecDepth 20000 in
theorem gX3_at_X3_yes : GoodIn wsX3_at (wsV RX3 67 RX3 yX3_yes wsX3_yes) := goodIn_app (goodIn_of _ (by decide +kernel)) ggX3_at_X3_yes
theorem dX3_at_0 : decode cX3_at 0 = .ok (.iload_n 1, 1) := by decide +kernel
theorem dX3_at_1 : decode cX3_at 1 = .ok (.invokestatic 112, 3) := by decide +kernel
theorem dX3_at_4 : decode cX3_at 4 = .ok (.ifCond .ne 6, 3) := by decide +kernel
theorem dX3_at_7 : decode cX3_at 7 = .ok (.ldc 107, 2) := by decide +kernel
theorem dX3_at_9 : decode cX3_at 9 = .ok (.ireturn, 1) := by decide +kernel
theorem dX3_at_10 : decode cX3_at 10 = .ok (.aload_n 0, 1) := by decide +kernel
theorem dX3_at_11 : decode cX3_at 11 = .ok (.iload_n 1, 1) := by decide +kernel
theorem dX3_at_12 : decode cX3_at 12 = .ok (.invokevirtual 88, 3) := by decide +kernel
theorem dX3_at_15 : decode cX3_at 15 = .ok (.iconst (-1), 1) := by decide +kernel
theorem dX3_at_16 : decode cX3_at 16 = .ok (.if_icmp .ne 9, 3) := by decide +kernel
theorem dX3_at_19 : decode cX3_at 19 = .ok (.aload_n 0, 1) := by decide +kernel
theorem dX3_at_20 : decode cX3_at 20 = .ok (.iconst 1, 1) := by decide +kernel
theorem dX3_at_21 : decode cX3_at 21 = .ok (.invokevirtual 56, 3) := by decide +kernel
theorem dX3_at_24 : decode cX3_at 24 = .ok (.ireturn, 1) := by decide +kernel
theorem dX3_at_25 : decode cX3_at 25 = .ok (.iload_n 2, 1) := by decide +kernel
theorem dX3_at_26 : decode cX3_at 26 = .ok (.iconst 0, 1) := by decide +kernel
theorem dX3_at_27 : decode cX3_at 27 = .ok (.aload_n 0, 1) := by decide +kernel
theorem dX3_at_28 : decode cX3_at 28 = .ok (.iload_n 1, 1) := by decide +kernel
theorem dX3_at_29 : decode cX3_at 29 = .ok (.invokevirtual 91, 3) := by decide +kernel
theorem dX3_at_32 : decode cX3_at 32 = .ok (.iconst 1, 1) := by decide +kernel
theorem dX3_at_33 : decode cX3_at 33 = .ok (.isub, 1) := by decide +kernel
theorem dX3_at_34 : decode cX3_at 34 = .ok (.invokestatic 44, 3) := by decide +kernel
theorem dX3_at_37 : decode cX3_at 37 = .ok (.ifCond .eq 16, 3) := by decide +kernel
theorem dX3_at_40 : decode cX3_at 40 = .ok (.aload_n 0, 1) := by decide +kernel
theorem dX3_at_41 : decode cX3_at 41 = .ok (.aload_n 0, 1) := by decide +kernel
theorem dX3_at_42 : decode cX3_at 42 = .ok (.iload_n 1, 1) := by decide +kernel
theorem dX3_at_43 : decode cX3_at 43 = .ok (.iload_n 2, 1) := by decide +kernel
theorem dX3_at_44 : decode cX3_at 44 = .ok (.invokevirtual 94, 3) := by decide +kernel
theorem dX3_at_47 : decode cX3_at 47 = .ok (.invokevirtual 67, 3) := by decide +kernel
theorem dX3_at_50 : decode cX3_at 50 = .ok (.goto 8, 3) := by decide +kernel
theorem dX3_at_53 : decode cX3_at 53 = .ok (.aload_n 0, 1) := by decide +kernel
theorem dX3_at_54 : decode cX3_at 54 = .ok (.iconst 3, 1) := by decide +kernel
theorem dX3_at_55 : decode cX3_at 55 = .ok (.invokevirtual 56, 3) := by decide +kernel
theorem dX3_at_58 : decode cX3_at 58 = .ok (.ireturn, 1) := by decide +kernel
set_option maxRecDepth 20000 in
theorem ggX3_pointAt_X3_isText : GoodIn wsX3_pointAt wsX3_isText := goodIn_r _ [7, 8, 9, 6, 10] (by decide +kernel) (by decide +kernel)
set_option maxRecDepth 20000 in
theorem gX3_pointAt_X3_isText : GoodIn wsX3_pointAt (va_wsS RX3 112 yX3_isText wsX3_isText) := goodIn_app (goodIn_of _ (by decide +kernel)) ggX3_pointAt_X3_isText
set_option maxRecDepth 20000 in
theorem ggX3_pointAt_X3_wantsPoints : GoodIn wsX3_pointAt wsX3_wantsPoints := goodIn_r _ [14, 15, 16, 17, 6, 18, 19, 20, 69, 70, 71, 72, 73, 74, 75, 76, 77, 78, 79, 80, 81, 82, 83, 84, 85, 86] (by decide +kernel) (by decide +kernel)
set_option maxRecDepth 20000 in
theorem gX3_pointAt_X3_wantsPoints : GoodIn wsX3_pointAt (wsV RX3 119 RX3 yX3_wantsPoints wsX3_wantsPoints) := goodIn_app (goodIn_of _ (by decide +kernel)) ggX3_pointAt_X3_wantsPoints
set_option maxRecDepth 20000 in
theorem ggX3_pointAt_X3_no : GoodIn wsX3_pointAt wsX3_no := goodIn_r _ [24, 25, 69, 70, 71, 72, 73, 74, 75, 76, 77, 78, 79, 80, 81, 82, 83, 84, 85, 86] (by decide +kernel) (by decide +kernel)
set_option maxRecDepth 20000 in
theorem gX3_pointAt_X3_no : GoodIn wsX3_pointAt (wsV RX3 56 RX3 yX3_no wsX3_no) := goodIn_app (goodIn_of _ (by decide +kernel)) ggX3_pointAt_X3_no
set_option maxRecDepth 20000 in
theorem ggX3_pointAt_X3_take : GoodIn wsX3_pointAt wsX3_take := goodIn_r _ [29, 30, 31, 2, 3, 15, 16, 17, 6, 18, 19, 20, 32, 33, 34, 35, 36, 37, 38, 39, 40, 41, 42, 43, 44, 45, 46, 47, 48, 49, 50, 51, 52, 8, 9, 10, 53, 54, 55, 56, 57, 58, 59, 60, 61, 62, 63, 64, 69, 70, 71, 72, 73, 74, 75, 76, 77, 78, 79, 80, 81, 82, 83, 84, 85, 86] (by decide +kernel) (by decide +kernel)
set_option maxRecDepth 20000 in
theorem gX3_pointAt_X3_take : GoodIn wsX3_pointAt (wsV RX3 122 RX3 yX3_take wsX3_take) := goodIn_app (goodIn_of _ (by decide +kernel)) ggX3_pointAt_X3_take
set_option maxRecDepth 20000 in
theorem ggX3_pointAt_X3_within : GoodIn wsX3_pointAt wsX3_within := goodIn_r _ [10] (by decide +kernel) (by decide +kernel)
set_option maxRecDepth 20000 in
theorem gX3_pointAt_X3_within : GoodIn wsX3_pointAt (va_wsS RX3 44 yX3_within wsX3_within) := goodIn_app (goodIn_of _ (by decide +kernel)) ggX3_pointAt_X3_within
set_option maxRecDepth 20000 in
theorem ggX3_pointAt_X3_yes : GoodIn wsX3_pointAt wsX3_yes := goodIn_r _ [68, 25, 69, 70, 71, 72, 73, 74, 75, 76, 77, 78, 79, 80, 81, 82, 83, 84, 85, 86] (by decide +kernel) (by decide +kernel)
set_option maxRecDepth 20000 in
theorem gX3_pointAt_X3_yes : GoodIn wsX3_pointAt (wsV RX3 67 RX3 yX3_yes wsX3_yes) := goodIn_app (goodIn_of _ (by decide +kernel)) ggX3_pointAt_X3_yes
theorem dX3_pointAt_0 : decode cX3_pointAt 0 = .ok (.iload_n 1, 1) := by decide +kernel
theorem dX3_pointAt_1 : decode cX3_pointAt 1 = .ok (.invokestatic 112, 3) := by decide +kernel
theorem dX3_pointAt_4 : decode cX3_pointAt 4 = .ok (.ifCond .ne 6, 3) := by decide +kernel
theorem dX3_pointAt_7 : decode cX3_pointAt 7 = .ok (.ldc 107, 2) := by decide +kernel
theorem dX3_pointAt_9 : decode cX3_pointAt 9 = .ok (.ireturn, 1) := by decide +kernel
theorem dX3_pointAt_10 : decode cX3_pointAt 10 = .ok (.aload_n 0, 1) := by decide +kernel
theorem dX3_pointAt_11 : decode cX3_pointAt 11 = .ok (.iload_n 1, 1) := by decide +kernel
theorem dX3_pointAt_12 : decode cX3_pointAt 12 = .ok (.invokevirtual 119, 3) := by decide +kernel
theorem dX3_pointAt_15 : decode cX3_pointAt 15 = .ok (.istore_n 3, 1) := by decide +kernel
theorem dX3_pointAt_16 : decode cX3_pointAt 16 = .ok (.iload_n 3, 1) := by decide +kernel
theorem dX3_pointAt_17 : decode cX3_pointAt 17 = .ok (.ifCond .eq 9, 3) := by decide +kernel
theorem dX3_pointAt_20 : decode cX3_pointAt 20 = .ok (.aload_n 0, 1) := by decide +kernel
theorem dX3_pointAt_21 : decode cX3_pointAt 21 = .ok (.iload_n 3, 1) := by decide +kernel
theorem dX3_pointAt_22 : decode cX3_pointAt 22 = .ok (.invokevirtual 56, 3) := by decide +kernel
theorem dX3_pointAt_25 : decode cX3_pointAt 25 = .ok (.ireturn, 1) := by decide +kernel
theorem dX3_pointAt_26 : decode cX3_pointAt 26 = .ok (.aload_n 0, 1) := by decide +kernel
theorem dX3_pointAt_27 : decode cX3_pointAt 27 = .ok (.iload_n 1, 1) := by decide +kernel
theorem dX3_pointAt_28 : decode cX3_pointAt 28 = .ok (.invokevirtual 122, 3) := by decide +kernel
theorem dX3_pointAt_31 : decode cX3_pointAt 31 = .ok (.iload_n 2, 1) := by decide +kernel
theorem dX3_pointAt_32 : decode cX3_pointAt 32 = .ok (.iconst 0, 1) := by decide +kernel
theorem dX3_pointAt_33 : decode cX3_pointAt 33 = .ok (.aload_n 0, 1) := by decide +kernel
theorem dX3_pointAt_34 : decode cX3_pointAt 34 = .ok (.getfield 74, 3) := by decide +kernel
theorem dX3_pointAt_37 : decode cX3_pointAt 37 = .ok (.iconst 1, 1) := by decide +kernel
theorem dX3_pointAt_38 : decode cX3_pointAt 38 = .ok (.isub, 1) := by decide +kernel
theorem dX3_pointAt_39 : decode cX3_pointAt 39 = .ok (.invokestatic 44, 3) := by decide +kernel
theorem dX3_pointAt_42 : decode cX3_pointAt 42 = .ok (.ifCond .eq 16, 3) := by decide +kernel
theorem dX3_pointAt_45 : decode cX3_pointAt 45 = .ok (.aload_n 0, 1) := by decide +kernel
theorem dX3_pointAt_46 : decode cX3_pointAt 46 = .ok (.aload_n 0, 1) := by decide +kernel
theorem dX3_pointAt_47 : decode cX3_pointAt 47 = .ok (.getfield 32, 3) := by decide +kernel
theorem dX3_pointAt_50 : decode cX3_pointAt 50 = .ok (.iload_n 2, 1) := by decide +kernel
theorem dX3_pointAt_51 : decode cX3_pointAt 51 = .ok (.iaload, 1) := by decide +kernel
theorem dX3_pointAt_52 : decode cX3_pointAt 52 = .ok (.invokevirtual 67, 3) := by decide +kernel
theorem dX3_pointAt_55 : decode cX3_pointAt 55 = .ok (.goto 8, 3) := by decide +kernel
theorem dX3_pointAt_58 : decode cX3_pointAt 58 = .ok (.aload_n 0, 1) := by decide +kernel
theorem dX3_pointAt_59 : decode cX3_pointAt 59 = .ok (.iconst 3, 1) := by decide +kernel
theorem dX3_pointAt_60 : decode cX3_pointAt 60 = .ok (.invokevirtual 56, 3) := by decide +kernel
theorem dX3_pointAt_63 : decode cX3_pointAt 63 = .ok (.ireturn, 1) := by decide +kernel
set_option maxRecDepth 20000 in
theorem ggX3_put_X3_isText : GoodIn wsX3_put wsX3_isText := goodIn_r _ [8, 9, 10, 7, 11] (by decide +kernel) (by decide +kernel)
set_option maxRecDepth 20000 in
theorem gX3_put_X3_isText : GoodIn wsX3_put (va_wsS RX3 112 yX3_isText wsX3_isText) := goodIn_app (goodIn_of _ (by decide +kernel)) ggX3_put_X3_isText
set_option maxRecDepth 20000 in
theorem ggX3_put_X3_sortOf : GoodIn wsX3_put wsX3_sortOf := goodIn_r _ [15, 3, 16, 35, 36, 37, 38, 39, 40, 41, 42, 43, 44, 45, 46, 47, 48, 49, 50, 51, 52] (by decide +kernel) (by decide +kernel)
set_option maxRecDepth 20000 in
theorem gX3_put_X3_sortOf : GoodIn wsX3_put (wsV RX3 88 RX3 yX3_sortOf wsX3_sortOf) := goodIn_app (goodIn_of _ (by decide +kernel)) ggX3_put_X3_sortOf
set_option maxRecDepth 20000 in
theorem ggX3_put_X3_manyOf : GoodIn wsX3_put wsX3_manyOf := goodIn_r _ [20, 21, 3, 35, 36, 37, 38, 39, 40, 41, 42, 43, 44, 45, 46, 47, 48, 49, 50, 51, 52] (by decide +kernel) (by decide +kernel)
set_option maxRecDepth 20000 in
theorem gX3_put_X3_manyOf : GoodIn wsX3_put (wsV RX3 91 RX3 yX3_manyOf wsX3_manyOf) := goodIn_app (goodIn_of _ (by decide +kernel)) ggX3_put_X3_manyOf
set_option maxRecDepth 20000 in
theorem ggX3_put_X3_within : GoodIn wsX3_put wsX3_within := goodIn_r _ [11] (by decide +kernel) (by decide +kernel)
set_option maxRecDepth 20000 in
theorem gX3_put_X3_within : GoodIn wsX3_put (va_wsS RX3 44 yX3_within wsX3_within) := goodIn_app (goodIn_of _ (by decide +kernel)) ggX3_put_X3_within
set_option maxRecDepth 20000 in
theorem ggX3_put_X3_no : GoodIn wsX3_put wsX3_no := goodIn_r _ [25, 26, 35, 36, 37, 38, 39, 40, 41, 42, 43, 44, 45, 46, 47, 48, 49, 50, 51, 52] (by decide +kernel) (by decide +kernel)
set_option maxRecDepth 20000 in
theorem gX3_put_X3_no : GoodIn wsX3_put (wsV RX3 56 RX3 yX3_no wsX3_no) := goodIn_app (goodIn_of _ (by decide +kernel)) ggX3_put_X3_no
set_option maxRecDepth 20000 in
theorem ggX3_put_X3_item : GoodIn wsX3_put wsX3_item := goodIn_r _ [30, 2, 3, 35, 36, 37, 38, 39, 40, 41, 42, 43, 44, 45, 46, 47, 48, 49, 50, 51, 52] (by decide +kernel) (by decide +kernel)
set_option maxRecDepth 20000 in
theorem gX3_put_X3_item : GoodIn wsX3_put (wsV RX3 94 RX3 yX3_item wsX3_item) := goodIn_app (goodIn_of _ (by decide +kernel)) ggX3_put_X3_item
set_option maxRecDepth 20000 in
theorem ggX3_put_X3_yes : GoodIn wsX3_put wsX3_yes := goodIn_r _ [34, 26, 35, 36, 37, 38, 39, 40, 41, 42, 43, 44, 45, 46, 47, 48, 49, 50, 51, 52] (by decide +kernel) (by decide +kernel)
set_option maxRecDepth 20000 in
theorem gX3_put_X3_yes : GoodIn wsX3_put (wsV RX3 67 RX3 yX3_yes wsX3_yes) := goodIn_app (goodIn_of _ (by decide +kernel)) ggX3_put_X3_yes
theorem dX3_put_0 : decode cX3_put 0 = .ok (.iload_n 1, 1) := by decide +kernel
theorem dX3_put_1 : decode cX3_put 1 = .ok (.invokestatic 112, 3) := by decide +kernel
theorem dX3_put_4 : decode cX3_put 4 = .ok (.ifCond .ne 6, 3) := by decide +kernel
theorem dX3_put_7 : decode cX3_put 7 = .ok (.ldc 107, 2) := by decide +kernel
theorem dX3_put_9 : decode cX3_put 9 = .ok (.ireturn, 1) := by decide +kernel
theorem dX3_put_10 : decode cX3_put 10 = .ok (.aload_n 0, 1) := by decide +kernel
theorem dX3_put_11 : decode cX3_put 11 = .ok (.iload_n 1, 1) := by decide +kernel
theorem dX3_put_12 : decode cX3_put 12 = .ok (.invokevirtual 88, 3) := by decide +kernel
theorem dX3_put_15 : decode cX3_put 15 = .ok (.istore 4, 2) := by decide +kernel
theorem dX3_put_17 : decode cX3_put 17 = .ok (.iload 4, 2) := by decide +kernel
theorem dX3_put_19 : decode cX3_put 19 = .ok (.iconst (-1), 1) := by decide +kernel
theorem dX3_put_20 : decode cX3_put 20 = .ok (.if_icmp .ne 7, 3) := by decide +kernel
theorem dX3_put_23 : decode cX3_put 23 = .ok (.iconst 1, 1) := by decide +kernel
theorem dX3_put_24 : decode cX3_put 24 = .ok (.goto 33, 3) := by decide +kernel
theorem dX3_put_27 : decode cX3_put 27 = .ok (.iload 4, 2) := by decide +kernel
theorem dX3_put_29 : decode cX3_put 29 = .ok (.iconst 1, 1) := by decide +kernel
theorem dX3_put_30 : decode cX3_put 30 = .ok (.if_icmp .ne 7, 3) := by decide +kernel
theorem dX3_put_33 : decode cX3_put 33 = .ok (.iconst 2, 1) := by decide +kernel
theorem dX3_put_34 : decode cX3_put 34 = .ok (.goto 23, 3) := by decide +kernel
theorem dX3_put_37 : decode cX3_put 37 = .ok (.iload_n 2, 1) := by decide +kernel
theorem dX3_put_38 : decode cX3_put 38 = .ok (.iconst 0, 1) := by decide +kernel
theorem dX3_put_39 : decode cX3_put 39 = .ok (.aload_n 0, 1) := by decide +kernel
theorem dX3_put_40 : decode cX3_put 40 = .ok (.iload_n 1, 1) := by decide +kernel
theorem dX3_put_41 : decode cX3_put 41 = .ok (.invokevirtual 91, 3) := by decide +kernel
theorem dX3_put_44 : decode cX3_put 44 = .ok (.iconst 1, 1) := by decide +kernel
theorem dX3_put_45 : decode cX3_put 45 = .ok (.isub, 1) := by decide +kernel
theorem dX3_put_46 : decode cX3_put 46 = .ok (.invokestatic 44, 3) := by decide +kernel
theorem dX3_put_49 : decode cX3_put 49 = .ok (.ifCond .eq 7, 3) := by decide +kernel
theorem dX3_put_52 : decode cX3_put 52 = .ok (.iconst 0, 1) := by decide +kernel
theorem dX3_put_53 : decode cX3_put 53 = .ok (.goto 4, 3) := by decide +kernel
theorem dX3_put_56 : decode cX3_put 56 = .ok (.iconst 3, 1) := by decide +kernel
theorem dX3_put_57 : decode cX3_put 57 = .ok (.istore 5, 2) := by decide +kernel
theorem dX3_put_59 : decode cX3_put 59 = .ok (.iload 5, 2) := by decide +kernel
theorem dX3_put_61 : decode cX3_put 61 = .ok (.ifCond .eq 10, 3) := by decide +kernel
theorem dX3_put_64 : decode cX3_put 64 = .ok (.aload_n 0, 1) := by decide +kernel
theorem dX3_put_65 : decode cX3_put 65 = .ok (.iload 5, 2) := by decide +kernel
theorem dX3_put_67 : decode cX3_put 67 = .ok (.invokevirtual 56, 3) := by decide +kernel
theorem dX3_put_70 : decode cX3_put 70 = .ok (.ireturn, 1) := by decide +kernel
theorem dX3_put_71 : decode cX3_put 71 = .ok (.aload_n 0, 1) := by decide +kernel
theorem dX3_put_72 : decode cX3_put 72 = .ok (.iload_n 1, 1) := by decide +kernel
theorem dX3_put_73 : decode cX3_put 73 = .ok (.iload_n 2, 1) := by decide +kernel
theorem dX3_put_74 : decode cX3_put 74 = .ok (.invokevirtual 94, 3) := by decide +kernel
theorem dX3_put_77 : decode cX3_put 77 = .ok (.istore 6, 2) := by decide +kernel
theorem dX3_put_79 : decode cX3_put 79 = .ok (.aload_n 0, 1) := by decide +kernel
theorem dX3_put_80 : decode cX3_put 80 = .ok (.getfield 22, 3) := by decide +kernel
theorem dX3_put_83 : decode cX3_put 83 = .ok (.sipush 240, 3) := by decide +kernel
theorem dX3_put_86 : decode cX3_put 86 = .ok (.aload_n 0, 1) := by decide +kernel
theorem dX3_put_87 : decode cX3_put 87 = .ok (.getfield 7, 3) := by decide +kernel
theorem dX3_put_90 : decode cX3_put 90 = .ok (.iload_n 1, 1) := by decide +kernel
theorem dX3_put_91 : decode cX3_put 91 = .ok (.iaload, 1) := by decide +kernel
theorem dX3_put_92 : decode cX3_put 92 = .ok (.imul, 1) := by decide +kernel
theorem dX3_put_93 : decode cX3_put 93 = .ok (.iload_n 2, 1) := by decide +kernel
theorem dX3_put_94 : decode cX3_put 94 = .ok (.iadd, 1) := by decide +kernel
theorem dX3_put_95 : decode cX3_put 95 = .ok (.iload 4, 2) := by decide +kernel
theorem dX3_put_97 : decode cX3_put 97 = .ok (.ifCond .ne 10, 3) := by decide +kernel
theorem dX3_put_100 : decode cX3_put 100 = .ok (.iload_n 3, 1) := by decide +kernel
theorem dX3_put_101 : decode cX3_put 101 = .ok (.ldc 111, 2) := by decide +kernel
theorem dX3_put_103 : decode cX3_put 103 = .ok (.iand, 1) := by decide +kernel
theorem dX3_put_104 : decode cX3_put 104 = .ok (.goto 8, 3) := by decide +kernel
theorem dX3_put_107 : decode cX3_put 107 = .ok (.iload_n 3, 1) := by decide +kernel
theorem dX3_put_108 : decode cX3_put 108 = .ok (.sipush 255, 3) := by decide +kernel
theorem dX3_put_111 : decode cX3_put 111 = .ok (.iand, 1) := by decide +kernel
theorem dX3_put_112 : decode cX3_put 112 = .ok (.iastore, 1) := by decide +kernel
theorem dX3_put_113 : decode cX3_put 113 = .ok (.aload_n 0, 1) := by decide +kernel
theorem dX3_put_114 : decode cX3_put 114 = .ok (.iload 6, 2) := by decide +kernel
theorem dX3_put_116 : decode cX3_put 116 = .ok (.invokevirtual 67, 3) := by decide +kernel
theorem dX3_put_119 : decode cX3_put 119 = .ok (.ireturn, 1) := by decide +kernel
set_option maxRecDepth 20000 in
theorem ggX3_turnInto_X3_isText : GoodIn wsX3_turnInto wsX3_isText := goodIn_r _ [9, 10, 11, 8, 12] (by decide +kernel) (by decide +kernel)
set_option maxRecDepth 20000 in
theorem gX3_turnInto_X3_isText : GoodIn wsX3_turnInto (va_wsS RX3 112 yX3_isText wsX3_isText) := goodIn_app (goodIn_of _ (by decide +kernel)) ggX3_turnInto_X3_isText
set_option maxRecDepth 20000 in
theorem ggX3_turnInto_X3_within : GoodIn wsX3_turnInto wsX3_within := goodIn_r _ [12] (by decide +kernel) (by decide +kernel)
set_option maxRecDepth 20000 in
theorem gX3_turnInto_X3_within : GoodIn wsX3_turnInto (va_wsS RX3 44 yX3_within wsX3_within) := goodIn_app (goodIn_of _ (by decide +kernel)) ggX3_turnInto_X3_within
set_option maxRecDepth 20000 in
theorem ggX3_turnInto_X3_wantsPoints : GoodIn wsX3_turnInto wsX3_wantsPoints := goodIn_r _ [16, 17, 18, 19, 8, 20, 21, 22, 79, 80, 81, 82, 83, 84, 85, 86, 87, 88, 89, 90, 91, 92, 93, 94, 95, 96] (by decide +kernel) (by decide +kernel)
set_option maxRecDepth 20000 in
theorem gX3_turnInto_X3_wantsPoints : GoodIn wsX3_turnInto (wsV RX3 119 RX3 yX3_wantsPoints wsX3_wantsPoints) := goodIn_app (goodIn_of _ (by decide +kernel)) ggX3_turnInto_X3_wantsPoints
set_option maxRecDepth 20000 in
theorem ggX3_turnInto_X3_no : GoodIn wsX3_turnInto wsX3_no := goodIn_r _ [26, 27, 79, 80, 81, 82, 83, 84, 85, 86, 87, 88, 89, 90, 91, 92, 93, 94, 95, 96] (by decide +kernel) (by decide +kernel)
set_option maxRecDepth 20000 in
theorem gX3_turnInto_X3_no : GoodIn wsX3_turnInto (wsV RX3 56 RX3 yX3_no wsX3_no) := goodIn_app (goodIn_of _ (by decide +kernel)) ggX3_turnInto_X3_no
set_option maxRecDepth 20000 in
theorem ggX3_turnInto_X3_take : GoodIn wsX3_turnInto wsX3_take := goodIn_r _ [31, 4, 5, 3, 2, 17, 18, 19, 8, 20, 21, 22, 32, 33, 34, 35, 36, 37, 38, 39, 40, 41, 42, 43, 44, 45, 46, 47, 48, 49, 50, 51, 52, 10, 11, 12, 53, 54, 55, 56, 57, 58, 59, 60, 61, 62, 63, 64, 79, 80, 81, 82, 83, 84, 85, 86, 87, 88, 89, 90, 91, 92, 93, 94, 95, 96] (by decide +kernel) (by decide +kernel)
set_option maxRecDepth 20000 in
theorem gX3_turnInto_X3_take : GoodIn wsX3_turnInto (wsV RX3 122 RX3 yX3_take wsX3_take) := goodIn_app (goodIn_of _ (by decide +kernel)) ggX3_turnInto_X3_take
